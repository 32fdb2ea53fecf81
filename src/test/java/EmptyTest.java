/** No chairs, no players, no text, no history, no rings and no round. */
public final class EmptyTest {
    public static void main(String[] args) {
        emptyRing();
        noPlayers();
        oneOfBoth();
        emptyText();
        emptiedText();
        emptyHistory();
        noRings();
        noRound();
        noRoundOfThisPlayer();
        Due.end();
    }

    private static BellChairs playersAlone() {
        return Due.made(new int[0], new int[12]);
    }

    private static BellChairs chairsAlone() {
        return Due.made(new int[16], new int[0]);
    }

    private static void emptyRing() {
        Due.refused("start", EmptyTest::playersAlone, x -> x.start(), Due.IMPOSSIBLE);
        Due.refused("start of a single player", () -> Due.made(new int[0], new int[1]),
                x -> x.start(), Due.IMPOSSIBLE);
        Due.refused("beat", EmptyTest::playersAlone, x -> x.beat(1), Due.IMPOSSIBLE);
        Due.refused("stop", EmptyTest::playersAlone, x -> x.stop(), Due.IMPOSSIBLE);
        Due.refused("tune", EmptyTest::playersAlone, x -> x.tune(0, 0), Due.INVALID);
        Due.refused("hears", EmptyTest::playersAlone, x -> x.hears(0, 0), Due.INVALID);
        for (int what = 0; what <= 2; what++) {
            int asked = what;
            Due.refused("chairOf", EmptyTest::playersAlone, x -> x.chairOf(0, asked), Due.INVALID);
            Due.refused("ifStopped", EmptyTest::playersAlone,
                    x -> x.ifStopped(0, asked), Due.IMPOSSIBLE);
        }
        Due.refused("outs", EmptyTest::playersAlone, x -> x.outs(), Due.IMPOSSIBLE);
        Due.refused("safeIn", EmptyTest::playersAlone, x -> x.safeIn(0), Due.IMPOSSIBLE);
        Due.due("chairs", EmptyTest::playersAlone, x -> x.count(1), 0);
        Due.due("place", EmptyTest::playersAlone, x -> x.playerOf(11, 3), Due.MISSING);
        Due.due("the text's start", () -> Due.write(playersAlone(), "g;"),
                x -> x.fault(2), Due.IMPOSSIBLE);
        Due.due("the first chair", EmptyTest::playersAlone, x -> x.chair(8), 0);
    }

    private static void noPlayers() {
        Due.refused("start", EmptyTest::chairsAlone, x -> x.start(), Due.IMPOSSIBLE);
        Due.refused("start with one chair", () -> Due.made(new int[1], new int[0]),
                x -> x.start(), Due.IMPOSSIBLE);
        Due.refused("train", EmptyTest::chairsAlone, x -> x.train(0, 0, 0), Due.INVALID);
        Due.refused("hears", EmptyTest::chairsAlone, x -> x.hears(0, 0), Due.INVALID);
        Due.refused("safeIn", EmptyTest::chairsAlone, x -> x.safeIn(0), Due.INVALID);
        Due.refused("ifStopped", EmptyTest::chairsAlone, x -> x.ifStopped(0, 0), Due.INVALID);
        for (int what = 0; what <= 8; what++) {
            int asked = what;
            Due.refused("playerOf", EmptyTest::chairsAlone, x -> x.playerOf(0, asked), Due.INVALID);
        }
        Due.refused("mean", EmptyTest::chairsAlone, x -> x.mean(), Due.MISSING);
        Due.refused("outs", EmptyTest::chairsAlone, x -> x.outs(), Due.IMPOSSIBLE);
        Due.due("players", EmptyTest::chairsAlone, x -> x.count(2), 0);
        Due.due("in play", EmptyTest::chairsAlone, x -> x.count(3), 0);
        Due.due("sittings", EmptyTest::chairsAlone, x -> x.count(6), 0);
        Due.due("bumps", EmptyTest::chairsAlone, x -> x.count(7), 0);
        Due.due("out", EmptyTest::chairsAlone, x -> x.count(8), 0);
        Due.due("steps", EmptyTest::chairsAlone, x -> x.count(10), 0);
        Due.refused("the only one", EmptyTest::chairsAlone, x -> x.count(12), Due.MISSING);
        Due.due("the first player", EmptyTest::chairsAlone, x -> x.player(9, 511), 0);
        Due.due("mean with a player", () -> Due.made(new int[0], new int[1]), x -> x.mean(), 0);
    }

    private static void oneOfBoth() {
        Due.refused("start of nothing", Scenes::fresh, x -> x.start(), Due.IMPOSSIBLE);
        Due.refused("start with one player for one chair", () -> Due.made(new int[1], new int[1]),
                x -> x.start(), Due.IMPOSSIBLE);
        Due.due("start with two players for one chair", () -> Due.made(new int[1], new int[2]),
                x -> x.start(), 2);
        Due.due("the only one in play", () -> Due.made(new int[0], new int[1]), x -> x.count(12), 0);
        Due.refused("none of two is the only one", () -> Due.made(new int[0], new int[2]),
                x -> x.count(12), Due.MISSING);
    }

    private static void emptyText() {
        for (int what = 0; what <= 2; what++) {
            int asked = what;
            Due.refused("fault", Scenes::fresh, x -> x.fault(asked), Due.MISSING);
            Due.refused("fault", Scenes::musicAgain, x -> x.fault(asked), Due.MISSING);
        }
        Due.due("clearText", Scenes::fresh, x -> x.clearText(), 0);
        Due.unchanged("clearText", Scenes::between, x -> x.clearText());
        Due.due("length", Scenes::fresh, x -> x.count(15), 0);
        Due.due("play", Scenes::fresh, x -> x.play(), 0);
        Due.due("play with the music", Scenes::musicAgain, x -> x.play(), 0);
        Due.due("play when it is over", Scenes::over, x -> x.play(), 0);
        Due.same("no orders do nothing", Scenes.spent(Scenes::musicAgain),
                Scenes.spent(Due.behind(Scenes::musicAgain, x -> x.play())));
        BellChairs x = new BellChairs();
        x.play();
        Due.due("a change also without orders", x.count(14), 1);
        Due.due("undo of it", x.undo(), 0);
        Due.due("the history is empty again", x.undo(), Due.IMPOSSIBLE);
    }

    private static void emptiedText() {
        BellChairs x = Due.write(new BellChairs(), "x");
        Due.due("a fault", x.fault(0), 0);
        Due.due("clearText", x.clearText(), 1);
        Due.due("no fault", x.fault(0), Due.MISSING);
        Due.due("play", x.play(), 0);
        Due.due("the next character is the first", x.type('c'), 1);
        Due.due("nothing is left of the text before", x.fault(2), 1);
    }

    private static void emptyHistory() {
        Due.refused("undo", Scenes::fresh, x -> x.undo(), Due.IMPOSSIBLE);
        Due.refused("undo of a text", () -> Due.write(new BellChairs(), "c1;"),
                x -> x.undo(), Due.IMPOSSIBLE);
        Due.due("states", Scenes::fresh, x -> x.count(14), 0);
        BellChairs x = new BellChairs();
        x.chair(7);
        Due.due("one state", x.count(14), 1);
        Due.due("none is left", x.undo(), 0);
        Due.due("states", x.count(14), 0);
        Due.due("undo", x.undo(), Due.IMPOSSIBLE);
        Due.due("chairs", x.count(1), 0);
        Due.same("all is as on a new object", Scenes::fresh,
                Due.behind(Due.behind(Scenes::fresh, y -> y.chair(7)), y -> y.undo()));
    }

    private static void noRings() {
        for (int what = 0; what <= 4; what++) {
            int asked = what;
            Due.refused("bell", Scenes::fresh, x -> x.bell(0, asked), Due.MISSING);
            Due.refused("bell while the music plays", Scenes::music,
                    x -> x.bell(0, asked), Due.MISSING);
        }
        Due.due("rings", Scenes::music, x -> x.count(13), 0);
        Due.due("rings behind a stop", Due.behind(Scenes::musicOfTwo, x -> x.stop()),
                x -> x.count(13), 1);
    }

    private static void noRound() {
        Due.due("rounds", Scenes::music, x -> x.count(4), 0);
        Due.due("out by rounds", Scenes::music, x -> x.count(9), 0);
        Due.due("ticks", Scenes::music, x -> x.count(11), 0);
        Due.due("sitter", Scenes::ready, x -> x.chairOf(0, 2), Due.MISSING);
        Due.due("sitter with the music", Scenes::music, x -> x.chairOf(1, 2), Due.MISSING);
        Due.due("round", Scenes::ready, x -> x.playerOf(2, 7), Due.MISSING);
        Due.due("round with the music", Scenes::music, x -> x.playerOf(2, 7), Due.MISSING);
        Due.due("tick", Scenes::ready, x -> x.playerOf(0, 8), Due.MISSING);
        Due.due("tick with the music", Scenes::music, x -> x.playerOf(0, 8), Due.MISSING);
    }

    private static void noRoundOfThisPlayer() {
        BellChairs x = Scenes.between();
        Due.due("a chair between the rounds", x.chair(6), 2);
        Due.due("nobody sat on it", x.chairOf(2, 2), Due.MISSING);
        Due.due("nor ever", x.chairOf(2, 1), 0);
        Due.due("somebody did on the one ahead of it", x.chairOf(1, 2), 1);
        Due.due("a player between the rounds", x.player(4, 4), 4);
        Due.due("tick", x.playerOf(4, 8), Due.MISSING);
        Due.due("tick of another one", x.playerOf(2, 8), 1);
        Due.due("round", x.playerOf(4, 7), Due.MISSING);
        Due.due("round of one who is out", x.playerOf(3, 7), 1);
        x.start();
        Due.due("tick with the music", x.playerOf(4, 8), Due.MISSING);
        x.stop();
        Due.due("tick behind a round", x.playerOf(4, 8) > 0 ? 1 : 0, 1);
    }
}
