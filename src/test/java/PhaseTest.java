import java.util.function.Supplier;

/** Each call in each phase: prepared, with the music, over; and how the phases follow. */
public final class PhaseTest {
    /** The call is answered so, whatever it is. */
    private static final int POSSIBLE = 0;
    private static final int NO = Due.IMPOSSIBLE;

    public static void main(String[] args) {
        chairsAndPlayers();
        theGame();
        questions();
        whatWouldBe();
        ofOneWhoIsOut();
        texts();
        ordersOfTexts();
        phasesFollow();
        undoAcrossPhases();
        roundsApart();
        Due.end();
    }

    /** What is due in the phases 0, 1 and 2; a refused call changes nothing. */
    private static void phases(String call, Due.Call made, int prepared, int music, int over) {
        one(call + ", prepared", Scenes::between, made, prepared);
        one(call + ", with the music", Scenes::musicAgain, made, music);
        one(call + ", over", Scenes::over, made, over);
    }

    private static void one(String call, Supplier<BellChairs> scene, Due.Call made, int due) {
        if (due == POSSIBLE) {
            Due.due(call + " is possible", made.on(scene.get()) >= 0 ? 1 : 0, 1);
        } else {
            Due.refused(call, scene, made, due);
        }
    }

    private static void chairsAndPlayers() {
        phases("chair", x -> x.chair(0), POSSIBLE, NO, NO);
        phases("player", x -> x.player(0, 0), POSSIBLE, NO, NO);
        phases("tune", x -> x.tune(0, 0), POSSIBLE, POSSIBLE, POSSIBLE);
        phases("train", x -> x.train(0, 0, 0), POSSIBLE, POSSIBLE, POSSIBLE);
        phases("train of one who is out", x -> x.train(2, 0, 0), POSSIBLE, POSSIBLE, POSSIBLE);
    }

    private static void theGame() {
        phases("start", x -> x.start(), POSSIBLE, NO, NO);
        phases("beat", x -> x.beat(1), NO, POSSIBLE, NO);
        phases("stop", x -> x.stop(), NO, POSSIBLE, NO);
        phases("set", x -> x.set(0, 3), POSSIBLE, POSSIBLE, POSSIBLE);
        Due.refused("beat ahead of the first round", Scenes::ready, x -> x.beat(1), NO);
        Due.refused("stop ahead of the first round", Scenes::ready, x -> x.stop(), NO);
        Due.refused("start with the first music", Scenes::music, x -> x.start(), NO);
    }

    private static void questions() {
        for (int what = 0; what <= 1; what++) {
            int asked = what;
            phases("chairOf", x -> x.chairOf(0, asked), POSSIBLE, POSSIBLE, POSSIBLE);
        }
        phases("sitter", x -> x.chairOf(0, 2), POSSIBLE, Due.MISSING, POSSIBLE);
        for (int what : new int[] {0, 1, 2, 4, 5, 6, 8}) {
            phases("playerOf " + what, x -> x.playerOf(0, what), POSSIBLE, POSSIBLE, POSSIBLE);
        }
        phases("place", x -> x.playerOf(0, 3), Due.MISSING, POSSIBLE, Due.MISSING);
        phases("round of one in play", x -> x.playerOf(0, 7), Due.MISSING, Due.MISSING, Due.MISSING);
        phases("hears", x -> x.hears(0, 0), POSSIBLE, POSSIBLE, POSSIBLE);
        phases("bell", x -> x.bell(0, 3), POSSIBLE, POSSIBLE, POSSIBLE);
        phases("mean", x -> x.mean(), POSSIBLE, POSSIBLE, POSSIBLE);
        for (int what : new int[] {0, 1, 2, 3, 4, 5, 6, 7, 8, 9, 10, 11, 13, 14, 15, 16, 20}) {
            phases("count " + what, x -> x.count(what), POSSIBLE, POSSIBLE, POSSIBLE);
        }
        phases("the only one in play", x -> x.count(12), Due.MISSING, Due.MISSING, POSSIBLE);
        Due.due("phase 0", Scenes::between, x -> x.count(0), 0);
        Due.due("phase 1", Scenes::musicAgain, x -> x.count(0), 1);
        Due.due("phase 2", Scenes::over, x -> x.count(0), 2);
        Due.due("beats in the phase 0", Scenes::between, x -> x.count(5), 0);
        Due.due("beats in the phase 1", Scenes::musicAgain, x -> x.count(5), 2);
        Due.due("beats in the phase 2", Scenes::over, x -> x.count(5), 0);
    }

    private static void whatWouldBe() {
        for (int what = 0; what <= 2; what++) {
            int asked = what;
            phases("ifStopped " + what, x -> x.ifStopped(0, asked), NO, POSSIBLE, NO);
        }
        phases("outs", x -> x.outs(), NO, POSSIBLE, NO);
        phases("safeIn", x -> x.safeIn(0), NO, POSSIBLE, NO);
        Due.refused("seat of one who would get out", Scenes::musicAgain,
                x -> x.ifStopped(2, 0), Due.MISSING);
        Due.due("bumps of that one", Scenes::musicAgain, x -> x.ifStopped(2, 1), 2);
        Due.due("tick of that one", Scenes::musicAgain, x -> x.ifStopped(2, 2), 3);
    }

    private static void ofOneWhoIsOut() {
        for (int what = 0; what <= 2; what++) {
            int asked = what;
            Due.refused("ifStopped of one who is out", Scenes::musicAgain,
                    x -> x.ifStopped(3, asked), NO);
            Due.refused("ifStopped of one who is out, over", Scenes::over,
                    x -> x.ifStopped(1, asked), NO);
        }
        Due.refused("safeIn of one who is out", Scenes::musicAgain, x -> x.safeIn(3), NO);
        Due.refused("safeIn of one who is out, over", Scenes::over, x -> x.safeIn(1), NO);
        Due.refused("place of one who is out", Scenes::musicAgain,
                x -> x.playerOf(3, 3), Due.MISSING);
        Due.due("round of one who is out", Scenes::musicAgain, x -> x.playerOf(3, 7), 1);
        Due.due("tick of one who is out", Scenes::musicAgain, x -> x.playerOf(3, 8), 4);
        Due.due("in play", Scenes::musicAgain, x -> x.playerOf(3, 2), 0);
        Due.due("steps stay as they are", Scenes::musicAgain, x -> x.playerOf(3, 6), 0);
        Due.due("nor is one out again", Scenes::musicAgain, x -> x.stop(), 4);
    }

    private static void texts() {
        phases("undo", x -> x.undo(), POSSIBLE, POSSIBLE, POSSIBLE);
        phases("type", x -> x.type('c'), POSSIBLE, POSSIBLE, POSSIBLE);
        phases("clearText", x -> x.clearText(), POSSIBLE, POSSIBLE, POSSIBLE);
        phases("fault", x -> x.fault(0), Due.MISSING, Due.MISSING, Due.MISSING);
        phases("play", x -> x.play(), POSSIBLE, POSSIBLE, POSSIBLE);
    }

    private static void ordersOfTexts() {
        orders("c1;", POSSIBLE, NO, NO);
        orders("p1,1;", POSSIBLE, NO, NO);
        orders("g;", POSSIBLE, NO, NO);
        orders("b1;", NO, POSSIBLE, NO);
        orders("s;", NO, POSSIBLE, NO);
        orders("g;b1;s;", POSSIBLE, NO, NO);
        orders("s;g;", NO, POSSIBLE, NO);
        orders("s;g;s;", NO, POSSIBLE, NO);
    }

    /** A text of a single bad order or of good ones alone. */
    private static void orders(String text, int prepared, int music, int over) {
        text(text, Scenes::between, prepared);
        text(text, Scenes::musicAgain, music);
        text(text, Scenes::over, over);
    }

    private static void text(String text, Supplier<BellChairs> scene, int due) {
        Supplier<BellChairs> written = () -> Due.write(scene.get(), text);
        if (due == POSSIBLE) {
            Due.due(text + " is possible", written.get().play() > 0 ? 1 : 0, 1);
            Due.due(text + " has no fault", written, x -> x.fault(0), Due.MISSING);
        } else {
            Due.refused("play of " + text, written, x -> x.play(), NO);
            Due.due(text + ": position", written, x -> x.fault(0), 0);
            Due.due(text + ": reason", written, x -> x.fault(1), 2);
            Due.due(text + ": cause", written, x -> x.fault(2), due);
        }
    }

    private static void phasesFollow() {
        BellChairs x = Scenes.ready();
        int[] phases = {0, 1, 1, 0, 1, 2};
        Due.due("at first", x.count(0), phases[0]);
        Due.due("start", x.start(), 3);
        Due.due("the music", x.count(0), phases[1]);
        Due.due("beat", x.beat(5), 5);
        Due.due("still", x.count(0), phases[2]);
        x.stop();
        Due.due("prepared", x.count(0), phases[3]);
        Due.due("start", x.start(), 2);
        Due.due("the music", x.count(0), phases[4]);
        x.stop();
        Due.due("over", x.count(0), phases[5]);
        Due.due("rounds", x.count(4), 2);
    }

    private static void undoAcrossPhases() {
        BellChairs x = Scenes.over();
        Due.due("undo of stop", x.undo(), 3);
        Due.due("the music plays again", x.count(0), 1);
        Due.due("beats again", x.count(5), 3);
        Due.due("beat goes on", x.beat(1), 4);
        x.undo();
        Due.due("undo of beat", x.undo(), 2);
        Due.due("beats ahead of it", x.count(5), 0);
        Due.due("undo of start", x.undo(), 1);
        Due.due("prepared", x.count(0), 0);
        Due.due("a chair is possible again", x.chair(0), 1);
    }

    private static void roundsApart() {
        BellChairs x = Scenes.between();
        Due.due("rounds", x.count(4), 1);
        Due.due("the latest ring is of round 1", x.bell(0, 0), 1);
        x.start();
        Due.due("a round counts when it is over", x.count(4), 1);
        Due.due("so do those who are out by rounds", x.count(9), 1);
        x.stop();
        Due.due("rounds", x.count(4), 2);
        Due.due("the latest ring is of round 2", x.bell(0, 0), 2);
        Due.due("out by rounds", x.count(9), 2);
        Due.due("round of the one", x.playerOf(3, 7), 1);
        Due.due("round of the other", x.playerOf(2, 7), 2);
    }
}
