import java.util.List;
import java.util.function.Supplier;

/** What there is at most: up to each limit, and one beyond it. */
public final class LimitTest {
    public static void main(String[] args) {
        sixteenChairs();
        chairsTakenAwayMakeRoom();
        twelvePlayers();
        playersWhoAreOutCount();
        sixtyCharacters();
        ordersOfAFullText();
        beatsOfARound();
        beatsOfTheNextRound();
        beatsByText();
        fourStates();
        eachChangeIsAState();
        whatIsNoChange();
        twelveRings();
        theMostTicks();
        beatsAhead();
        mostOutAtOnce();
        leastInPlay();
        leastChairs();
        Due.end();
    }

    private static void sixteenChairs() {
        Due.due("the sixteenth", () -> Due.made(new int[15], new int[0]), x -> x.chair(8), 15);
        Due.refused("the seventeenth", Scenes::fullRing, x -> x.chair(0), Due.LIMIT);
        Due.refused("the seventeenth", Scenes::fullRing, x -> x.chair(8), Due.LIMIT);
        Due.due("chairs", Scenes::fullRing, x -> x.count(1), 16);
        BellChairs x = Scenes.fullRing();
        for (int place = 0; place < 16; place++) {
            Due.due("tone at " + place, x.chairOf(place, 0), place % 9);
        }
        for (int place = 0; place < 16; place++) {
            Due.due("tune at " + place, x.tune(place, 8 - place % 9), place % 9);
        }
        for (int place = 0; place < 16; place++) {
            Due.due("tuned at " + place, x.chairOf(place, 0), 8 - place % 9);
        }
        Due.refused("start with more chairs than there can be players",
                () -> Due.made(new int[16], new int[12]), y -> y.start(), Due.IMPOSSIBLE);
        x = Due.made(new int[16], new int[0]);
        x.undo();
        Due.due("the sixteenth again", x.chair(1), 15);
        Due.due("not the seventeenth", x.chair(1), Due.LIMIT);
    }

    private static void chairsTakenAwayMakeRoom() {
        BellChairs x = Scenes.between();
        for (int place = 2; place < 16; place++) {
            Due.due("a chair between the rounds", x.chair(0), place);
        }
        Due.due("one too many", x.chair(0), Due.LIMIT);
        Due.due("taken away", x.count(16), 1);
    }

    private static void twelvePlayers() {
        Due.due("the twelfth", () -> Due.made(new int[0], new int[11]), x -> x.player(9, 511), 11);
        Due.refused("the thirteenth", Scenes::fullCrowd, x -> x.player(0, 0), Due.LIMIT);
        Due.refused("the thirteenth", Scenes::fullCrowd, x -> x.player(9, 511), Due.LIMIT);
        Due.due("players", Scenes::fullCrowd, x -> x.count(2), 12);
        Due.due("in play", Scenes::fullCrowd, x -> x.count(3), 4095);
        Due.due("start of twelve", Scenes::fullCrowd, x -> x.start(), 12);
        Due.refused("start of twelve with twelve chairs",
                Due.behind(Scenes::fullCrowd, x -> x.chair(0)), x -> x.start(), Due.IMPOSSIBLE);
        BellChairs x = Scenes.fullCrowd();
        x.undo();
        Due.due("the twelfth again", x.player(3, 3), 11);
        Due.due("not the thirteenth", x.player(3, 3), Due.LIMIT);
    }

    private static void playersWhoAreOutCount() {
        Supplier<BellChairs> scene = Due.behind(Scenes::fullMusic, x -> x.stop());
        Due.due("one of twelve is out", scene, x -> x.count(8), 1);
        Due.due("the phase", scene, x -> x.count(0), 0);
        Due.refused("the thirteenth", scene, x -> x.player(0, 0), Due.LIMIT);
    }

    private static void sixtyCharacters() {
        Due.refused("the 61st", Scenes::fullText, x -> x.type('c'), Due.LIMIT);
        Due.refused("the 61st", Scenes::fullText, x -> x.type(32), Due.LIMIT);
        Due.refused("the 61st", Scenes::fullText, x -> x.type(126), Due.LIMIT);
        Due.due("length", Scenes::fullText, x -> x.count(15), 60);
        BellChairs x = new BellChairs();
        for (int length = 1; length <= 60; length++) {
            Due.due("type", x.type(32 + length), length);
            Due.due("length", x.count(15), length);
        }
        Due.due("the 61st", x.type('c'), Due.LIMIT);
        Due.due("clearText", x.clearText(), 60);
        Due.due("the first again", x.type('c'), 1);
    }

    private static void ordersOfAFullText() {
        // 16 orders of three characters, then one of five and one of seven.
        StringBuilder text = new StringBuilder();
        for (int i = 0; i < 16; i++) {
            text.append('c').append(i % 9).append(';');
        }
        text.append("p0,0;p1,007;");
        Supplier<BellChairs> scene = () -> Due.write(new BellChairs(), text.toString());
        Due.due("fault", scene, x -> x.fault(0), Due.MISSING);
        Due.due("play", scene, x -> x.play(), 18);
        Supplier<BellChairs> played = Due.behind(scene, x -> x.play());
        Due.due("chairs", played, x -> x.count(1), 16);
        Due.due("players", played, x -> x.count(2), 2);
        Due.due("the last number", played, x -> x.playerOf(1, 1), 7);
        Due.due("length", played, x -> x.count(15), 60);
        Due.due("position of the seventeenth of twenty chairs",
                () -> Due.write(new BellChairs(), "c1;c1;c1;c1;c1;c1;c1;c1;c1;c1;"
                        + "c1;c1;c1;c1;c1;c1;c1;c1;c1;c1;"), x -> x.fault(0), 48);
        Supplier<BellChairs> cut = () -> Due.write(new BellChairs(),
                "c01;c01;c01;c01;c01;c01;c01;c01;c01;c01;c01;c01;c01;c01;p0,0");
        Due.due("position of an order that the end of 60 cuts off", cut, x -> x.fault(0), 56);
        Due.due("its reason", cut, x -> x.fault(1), 1);
        Due.due("its cause is its length", cut, x -> x.fault(2), 4);
        // As many as there can be: 11 rounds of 22 orders, and 4 for the setup's last ones.
        Supplier<BellChairs> most = () -> Due.write(Scenes.fullCrowd(),
                "g;s;g;s;g;s;g;s;g;s;g;s;g;s;g;s;g;s;g;s;g;s;");
        Due.due("play of eleven rounds", most, x -> x.play(), 22);
        Due.due("one is left", Due.behind(most, x -> x.play()), x -> x.count(0), 2);
        Due.due("a twelfth round", () -> Due.write(Scenes.fullCrowd(),
                "g;s;g;s;g;s;g;s;g;s;g;s;g;s;g;s;g;s;g;s;g;s;g;s;"), x -> x.fault(0), 44);
    }

    private static void beatsOfARound() {
        Due.due("beats", Scenes::longMusic, x -> x.count(5), 999);
        Due.refused("one more", Scenes::longMusic, x -> x.beat(1), Due.LIMIT);
        Due.refused("99 more", Scenes::longMusic, x -> x.beat(99), Due.LIMIT);
        Supplier<BellChairs> nearly = () -> {
            BellChairs x = Scenes.music();
            for (int i = 0; i < 10; i++) {
                x.beat(99);
            }
            return x;
        };
        Due.due("to 999", nearly, x -> x.beat(9), 999);
        Due.refused("to 1000", nearly, x -> x.beat(10), Due.LIMIT);
        Due.refused("to 1089", nearly, x -> x.beat(99), Due.LIMIT);
        Due.due("to 998", nearly, x -> x.beat(8), 998);
        Due.due("steps", Scenes::longMusic, x -> x.playerOf(2, 6), 2997);
        Due.due("steps in all", Scenes::longMusic, x -> x.count(10), 5994);
    }

    private static void beatsOfTheNextRound() {
        BellChairs x = Due.made(new int[2], new int[] {1, 1, 1});
        for (int round = 1; round <= 2; round++) {
            x.start();
            for (int i = 1; i <= 10; i++) {
                Due.due("beats of round " + round, x.beat(99), 99 * i);
            }
            Due.due("to 999 in round " + round, x.beat(9), 999);
            Due.due("to 1000 in round " + round, x.beat(1), Due.LIMIT);
            x.stop();
        }
        Due.due("steps of two rounds", x.playerOf(0, 6), 1998);
    }

    private static void beatsByText() {
        Due.due("a thousandth beat by text", () -> Due.write(Scenes.longMusic(), "b1;"),
                x -> x.fault(2), Due.LIMIT);
        Due.due("up to it by text",
                () -> Due.write(Scenes.ready(), "g;b99;b99;b99;b99;b99;b99;b99;b99;b99;b99;b9;"),
                x -> x.play(), 12);
    }

    private static void fourStates() {
        for (int changes = 0; changes <= 9; changes++) {
            BellChairs x = new BellChairs();
            for (int i = 0; i < changes; i++) {
                x.chair(i % 9);
            }
            int kept = Math.min(changes, 4);
            Due.due("states behind " + changes + " changes", x.count(14), kept);
            for (int left = kept - 1; left >= 0; left--) {
                Due.due("undo of " + changes, x.undo(), left);
                Due.due("states", x.count(14), left);
                Due.due("chairs", x.count(1), changes - kept + left);
            }
            Due.due("no more than four of " + changes, x.undo(), Due.IMPOSSIBLE);
            Due.due("chairs that stay", x.count(1), changes - kept);
        }
        BellChairs x = new BellChairs();
        for (int i = 0; i < 4; i++) {
            x.chair(i);
        }
        x.undo();
        x.undo();
        x.chair(7);
        Due.due("three states behind four, two back and one on", x.count(14), 3);
        x.chair(8);
        x.chair(8);
        Due.due("four again", x.count(14), 4);
        for (int i = 0; i < 4; i++) {
            x.undo();
        }
        Due.due("the oldest one was dropped", x.count(1), 1);
    }

    private static void eachChangeIsAState() {
        String ready = "c3;c8;p1,0;p2,8;p3,511;";
        adds("chair", ready, x -> x.chair(0));
        adds("player", ready, x -> x.player(0, 0));
        adds("tune", ready, x -> x.tune(0, 1));
        adds("tune to the tone that it has", ready, x -> x.tune(0, 3));
        adds("train", ready, x -> x.train(0, 5, 5));
        adds("train to what is", ready, x -> x.train(0, 1, 0));
        adds("start", ready, x -> x.start());
        adds("beat", ready + "g;", x -> x.beat(1));
        adds("beat of those who stand", "c0;p0,0;p0,0;g;", x -> x.beat(1));
        adds("stop", ready + "g;", x -> x.stop());
        adds("set", ready, x -> x.set(0, 2));
        adds("set to what is", ready, x -> x.set(0, 1));
        adds("play of no orders", ready, x -> x.play());
        adds("play of three", ready, x -> Due.write(x, "g;b1;s;").play());
    }

    private static void adds(String call, String text, Due.Call change) {
        BellChairs x = Scenes.byText(text);
        Due.due("one state ahead of " + call, x.count(14), 1);
        Due.due(call + " is possible", change.on(x) >= 0 ? 1 : 0, 1);
        Due.due("states behind " + call, x.count(14), 2);
        Due.due("undo of " + call, x.undo(), 1);
    }

    private static void whatIsNoChange() {
        List<Due.Call> calls = List.of(x -> x.type('g'), x -> x.clearText(), x -> x.fault(0),
                x -> x.chairOf(0, 0), x -> x.playerOf(0, 3), x -> x.hears(1, 0), x -> x.bell(0, 0),
                x -> x.ifStopped(0, 0), x -> x.outs(), x -> x.safeIn(0), x -> x.mean(),
                x -> x.count(3));
        for (Due.Call call : calls) {
            BellChairs x = Scenes.byText("c3;p1,0;p2,8;g;s;");
            Due.due("one state ahead", x.count(14), 1);
            call.on(x);
            Due.due("one state behind a question", x.count(14), 1);
            x = Scenes.byText("c3;p1,0;p2,8;g;");
            call.on(x);
            Due.due("one state behind a question with the music", x.count(14), 1);
        }
    }

    /** Seven rings in the first round, then five, then three: 12 are kept, first just, then of 15. */
    private static void twelveRings() {
        BellChairs x = Due.made(new int[] {0, 1, 2, 3, 4, 5, 6}, new int[8]);
        x.set(0, 2);
        x.start();
        x.stop();
        Due.due("rings behind a round", x.count(13), 7);
        Due.due("chairs", x.count(1), 5);
        x.start();
        x.stop();
        Due.due("just twelve", x.count(13), 12);
        Due.due("the latest", x.bell(0, 2), 4);
        Due.due("its round", x.bell(0, 0), 2);
        Due.due("the oldest of the second round", x.bell(4, 2), 0);
        Due.due("the latest of the first round", x.bell(5, 2), 6);
        Due.due("the oldest", x.bell(11, 2), 0);
        Due.due("its round", x.bell(11, 0), 1);
        for (int what = 0; what <= 4; what++) {
            Due.due("a thirteenth", x.bell(12, what), Due.MISSING);
        }
        Due.due("chairs", x.count(1), 3);
        x.start();
        x.stop();
        Due.due("twelve of fifteen", x.count(13), 12);
        int[] rounds = {3, 3, 3, 2, 2, 2, 2, 2, 1, 1, 1, 1};
        int[] places = {2, 1, 0, 4, 3, 2, 1, 0, 6, 5, 4, 3};
        for (int ago = 0; ago < 12; ago++) {
            Due.due("round, " + ago + " ago", x.bell(ago, 0), rounds[ago]);
            Due.due("tick, " + ago + " ago", x.bell(ago, 1), 1);
            Due.due("place, " + ago + " ago", x.bell(ago, 2), places[ago]);
            Due.due("tone, " + ago + " ago", x.bell(ago, 3), places[ago]);
            Due.due("player, " + ago + " ago", x.bell(ago, 4), places[ago]);
        }
        Due.due("older ones are gone", x.bell(12, 0), Due.MISSING);
        thirteenRings();
    }

    private static void thirteenRings() {
        BellChairs x = Due.made(new int[] {0, 1, 2, 3, 4, 5, 6}, new int[8]);
        x.start();
        x.stop();
        x.start();
        x.stop();
        Due.due("twelve of thirteen", x.count(13), 12);
        Due.due("the first one is dropped", x.bell(11, 2), 1);
        Due.due("the second one is the oldest", x.bell(11, 0), 1);
        Due.due("no thirteenth", x.bell(12, 2), Due.MISSING);
        x.undo();
        Due.due("undo brings back seven", x.count(13), 7);
        Due.due("the first one is there again", x.bell(6, 2), 0);
    }

    /** The twelfth player bumps into all of the eleven chairs and is out in the twelfth tick. */
    private static void theMostTicks() {
        Due.due("outs", Scenes::fullMusic, x -> x.outs(), 2048);
        Due.due("bumps", Scenes::fullMusic, x -> x.ifStopped(11, 1), 11);
        Due.due("tick", Scenes::fullMusic, x -> x.ifStopped(11, 2), 12);
        Due.due("stop", Scenes::fullMusic, x -> x.stop(), 2048);
        Supplier<BellChairs> behind = Due.behind(Scenes::fullMusic, x -> x.stop());
        Due.due("ticks", behind, x -> x.count(11), 12);
        Due.due("bumps", behind, x -> x.count(7), 11);
        Due.due("sittings", behind, x -> x.count(6), 11);
        Due.due("one of them sits in the first tick", behind, x -> x.playerOf(10, 8), 1);
        Due.due("tick", behind, x -> x.playerOf(11, 8), 12);
        Due.due("chairs", behind, x -> x.count(1), 10);
    }

    /**
     * Behind ten beats player 8 is at the place 10 and player 10 at the place 9: both are gone
     * from the way to the chair 8, and player 11 comes to it in the ninth tick. As at most eleven
     * chairs are in a game, places come again behind eleven beats.
     */
    private static void beatsAhead() {
        Supplier<BellChairs> scene = () -> {
            BellChairs x = Scenes.fullCrowd();
            x.train(8, 9, 0);
            x.train(10, 1, 0);
            x.start();
            return x;
        };
        BellChairs x = scene.get();
        for (int beats = 0; beats <= 10; beats++) {
            Due.due("safe behind " + beats, x.safeIn(11), 10 - beats);
            int seat = x.ifStopped(11, 0);
            Due.due("seat behind " + beats, seat, beats == 10 ? 8 : Due.MISSING);
            x.beat(1);
        }
        Due.due("round the ring", x.safeIn(11), 10);
        Due.due("with none of them", Scenes::fullMusic, y -> y.safeIn(11), Due.MISSING);
        Due.due("with the first of them", Scenes::fullMusic, y -> y.safeIn(10), 0);
        for (int i = 0; i < 9; i++) {
            x.beat(99);
        }
        x.beat(97);
        Due.due("beats", x.count(5), 999);
        // 999 beats are 90 times round the ring and nine more.
        Due.due("safe behind the last beat of a round", x.safeIn(11), 1);
    }

    private static void mostOutAtOnce() {
        Supplier<BellChairs> scene = () -> {
            BellChairs x = Due.made(new int[] {8}, new int[12]);
            x.start();
            return x;
        };
        Due.due("eleven are out at once", scene, x -> x.stop(), 4094);
        Supplier<BellChairs> behind = Due.behind(scene, x -> x.stop());
        Due.due("phase", behind, x -> x.count(0), 2);
        Due.due("out", behind, x -> x.count(8), 11);
        Due.due("out by rounds", behind, x -> x.count(9), 11);
        Due.due("the only one", behind, x -> x.count(12), 0);
        Due.due("the chair stays", behind, x -> x.count(1), 1);
        Due.due("mean of eleven bumps", behind, x -> x.mean(), Float.floatToIntBits(11f / 12f));
    }

    private static void leastInPlay() {
        Due.due("two are left: it goes on", Scenes.byText("c0;c0;p0,0;p0,0;p0,0;g;s;").count(0), 0);
        Due.due("one is left: it is over", Scenes.byText("c0;p0,0;p0,0;g;s;").count(0), 2);
        Due.due("the only one", Scenes.byText("c0;p0,0;p0,0;g;s;").count(12), 0);
        Due.due("none of two is the only one",
                Scenes.byText("c0;c0;p0,0;p0,0;p0,0;g;s;").count(12), Due.MISSING);
    }

    private static void leastChairs() {
        for (int value = 1; value <= 3; value++) {
            int setting = value;
            Supplier<BellChairs> scene = () -> {
                BellChairs x = Due.made(new int[3], new int[4]);
                x.set(0, setting);
                x.start();
                x.stop();
                return x;
            };
            // Three are left: two chairs, one, and also one where it would be none.
            Due.due("chairs with " + value, scene, x -> x.count(1), value == 1 ? 2 : 1);
            Due.due("start with " + value, scene, x -> x.start(), 3);
        }
    }
}
