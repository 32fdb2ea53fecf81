import java.util.List;
import java.util.function.Supplier;

/** Promises 14 to 19. */
public final class WouldBeTest {
    public static void main(String[] args) {
        ifStopped();
        ifStoppedInALaterRound();
        outs();
        safeIn();
        safeInToTheLast();
        eachQuestionBeginsAnew();
        mean();
        count();
        twoSums();
        undo();
        undoAll();
        undoEach();
        Due.end();
    }

    private static void ifStopped() {
        BellChairs x = Due.crowd(1 << 6);
        int[] seats = {0, 3, 1, 2, Due.MISSING};
        int[] bumps = {0, 2, 0, 1, 4};
        int[] ticks = {1, 3, 1, 2, 5};
        for (int player = 0; player < 5; player++) {
            Due.due("seat of " + player, x.ifStopped(player, 0), seats[player]);
            Due.due("bumps of " + player, x.ifStopped(player, 1), bumps[player]);
            Due.due("tick of " + player, x.ifStopped(player, 2), ticks[player]);
        }
        for (int what : new int[] {-1, 3, Integer.MIN_VALUE, Integer.MAX_VALUE}) {
            Due.due("ifStopped(0, " + what + ")", x.ifStopped(0, what), Due.INVALID);
        }
        Due.due("ifStopped(5, 0)", x.ifStopped(5, 0), Due.INVALID);
        Due.due("ifStopped(-1, 0)", x.ifStopped(-1, 0), Due.INVALID);
        Due.due("nothing has changed", x.count(7), 0);
        Due.due("nobody has moved", x.playerOf(4, 3), 1);
        Due.due("no bell has rung", x.count(13), 0);
        x.stop();
        Due.due("without music", x.ifStopped(0, 0), Due.IMPOSSIBLE);
        Due.due("without music, out of range", x.ifStopped(0, 3), Due.INVALID);
        x.start();
        Due.due("one who is out", x.ifStopped(4, 1), Due.IMPOSSIBLE);
    }

    private static void ifStoppedInALaterRound() {
        BellChairs x = Due.made(new int[] {0, 0}, new int[3]);
        x.start();
        x.stop();
        x.start();
        // Player 1 had no bump so far, player 2 is out; one chair is left.
        Due.due("bumps of 1", x.ifStopped(1, 1), 1);
        Due.due("tick of 1", x.ifStopped(1, 2), 2);
        Due.due("bumps of 0", x.ifStopped(0, 1), 0);
        x = Due.made(new int[] {0, 0}, new int[] {0, 1, 0});
        x.start();
        x.beat(1);
        x.stop();
        Due.due("bumps so far", x.playerOf(1, 5), 1);
        x.start();
        Due.due("bumps of this stop alone", x.ifStopped(1, 1), 1);
    }

    private static void outs() {
        BellChairs x = new BellChairs();
        Due.due("outs of nothing", x.outs(), Due.IMPOSSIBLE);
        x = Due.crowd(0);
        Due.due("outs", x.outs(), 2);
        x.train(1, 3, 1 << 6);
        Due.due("outs with bells", x.outs(), 16);
        Due.due("all are in play", x.count(3), 31);
        Due.due("stop", x.stop(), 16);
        Due.due("outs without music", x.outs(), Due.IMPOSSIBLE);
    }

    private static void safeIn() {
        BellChairs x = Due.made(new int[] {0, 1}, new int[] {0, 0, 1});
        Due.due("safeIn(0) without music", x.safeIn(0), Due.IMPOSSIBLE);
        Due.due("safeIn(3)", x.safeIn(3), Due.INVALID);
        Due.due("safeIn(-1)", x.safeIn(-1), Due.INVALID);
        x.start();
        Due.due("safeIn(0)", x.safeIn(0), 0);
        Due.due("safeIn(1)", x.safeIn(1), 0);
        Due.due("safeIn(2)", x.safeIn(2), Due.MISSING);
        // With a stride the first one leaves the place 0 to the last one behind one beat.
        x.train(0, 1, 0);
        x.train(2, 0, 0);
        Due.due("safeIn(2)", x.safeIn(2), 1);
        Due.due("nobody has walked", x.count(10), 0);
        Due.due("no beat has passed", x.count(5), 0);
        x.stop();
        x.start();
        Due.due("safeIn of one who is out", x.safeIn(2), Due.IMPOSSIBLE);
        Due.due("safeIn(MIN)", x.safeIn(Integer.MIN_VALUE), Due.INVALID);
        Due.due("safeIn(MAX)", x.safeIn(Integer.MAX_VALUE), Due.INVALID);
    }

    private static void safeInToTheLast() {
        // The beats up to 999 set no bound to what is asked.
        BellChairs x = Due.made(new int[] {0, 1}, new int[] {1, 0, 0});
        x.start();
        for (int i = 0; i < 10; i++) {
            x.beat(99);
        }
        x.beat(8);
        Due.due("beats", x.count(5), 998);
        Due.due("safeIn(2)", x.safeIn(2), 1);
        x.beat(1);
        Due.due("safeIn(2)", x.safeIn(2), 0);
        x.train(2, 0, 0);
        x.train(0, 2, 0);
        Due.due("safeIn(2), when nobody changes place", x.safeIn(2), 0);
    }

    /** What was asked ahead of it leaves no trace in what is asked, nor in a stop. */
    private static void eachQuestionBeginsAnew() {
        Supplier<BellChairs> scene = () -> {
            BellChairs x = Due.made(new int[] {5, 6, 7}, new int[] {1, 0, 0, 1, 0});
            for (int player = 0; player < 5; player++) {
                x.train(player, player % 3 == 0 ? 1 : 0, 1 << 5);
            }
            x.start();
            x.beat(2);
            // At the places 2, 1, 2, 2, 1: somebody comes to 0 in the second tick.
            Due.due("tick of 2", x.ifStopped(2, 2), 2);
            x.beat(2);
            return x;
        };
        // At the places 1, 1, 2, 1, 1: the first one comes to 0 in the third tick.
        Due.due("seat of 1", scene, x -> x.ifStopped(1, 0), 0);
        Due.due("tick of 1", scene, x -> x.ifStopped(1, 2), 3);
        Due.due("outs", scene, x -> x.outs(), 0b11000);
        Due.due("safeIn", scene, x -> x.safeIn(1), 0);
        Due.due("stop", scene, x -> x.stop(), 0b11000);
    }

    private static void mean() {
        BellChairs x = new BellChairs();
        Due.due("mean without players", x.mean(), Due.MISSING);
        x.player(0, 0);
        Due.due("mean of none", x.mean(), 0);
        x = Due.crowd(0);
        Due.due("mean ahead of the stop", x.mean(), 0);
        x.stop();
        Due.due("mean of 7 and 5", x.mean(), Float.floatToIntBits(7f / 5f));
        for (int players = 2; players <= 12; players++) {
            for (int chairs = 1; chairs < players; chairs++) {
                x = Due.made(new int[chairs], new int[players]);
                for (int round = 0; round < players; round++) {
                    x.start();
                    x.stop();
                    float due = (float) x.count(7) / (float) players;
                    Due.due("mean", x.mean(), Float.floatToIntBits(due));
                }
            }
        }
    }

    private static void count() {
        BellChairs x = new BellChairs();
        for (int what : new int[] {-1, 17, 18, 19, 21, Integer.MIN_VALUE, Integer.MAX_VALUE}) {
            Due.due("count(" + what + ")", x.count(what), Due.INVALID);
        }
        x.player(0, 0);
        Due.due("the only player", x.count(12), 0);
        x.player(0, 0);
        Due.due("no only player", x.count(12), Due.MISSING);
        x = Due.crowd(0);
        x.type('g');
        int[] music = {1, 4, 5, 31, 0, 1, 0, 0, 0, 0, 9, 0, Due.MISSING, 0, 4, 1, 0};
        for (int what = 0; what <= 16; what++) {
            Due.due("music: count(" + what + ")", x.count(what), music[what]);
        }
        x.stop();
        int[] after = {0, 3, 5, 29, 1, 0, 4, 7, 1, 1, 9, 5, Due.MISSING, 4, 4, 1, 1};
        for (int what = 0; what <= 16; what++) {
            Due.due("after: count(" + what + ")", x.count(what), after[what]);
        }
        x.set(0, 2);
        Due.due("count(20)", x.count(20), 2);
        for (int i = 0; i < 3; i++) {
            x.start();
            x.beat(2);
            x.stop();
        }
        Due.due("phase", x.count(0), 2);
        Due.due("beats", x.count(5), 0);
        Due.due("the last one", x.count(12), Integer.numberOfTrailingZeros(x.count(3)));
    }

    private static void twoSums() {
        for (int fewer = 1; fewer <= 3; fewer++) {
            BellChairs x = Due.made(new int[5], new int[] {1, 2, 3, 4, 5, 6, 7, 8});
            x.set(0, fewer);
            for (int round = 0; round < 8 && x.count(0) == 0; round++) {
                x.start();
                x.beat(round + 1);
                x.stop();
                Due.due("told in two ways", x.count(9), x.count(8));
                Due.due("players out and in", x.count(8) + Integer.bitCount(x.count(3)), 8);
                sumOfPlayers(x, 4, 6);
                sumOfPlayers(x, 5, 7);
                sumOfPlayers(x, 6, 10);
            }
            Due.due("outs in all", x.count(9), 7);
        }
        BellChairs x = Due.made(new int[2], new int[4]);
        x.start();
        Due.due("a round that is not over", x.count(9), 0);
    }

    private static void sumOfPlayers(BellChairs x, int each, int all) {
        int sum = 0;
        for (int player = 0; player < x.count(2); player++) {
            sum += x.playerOf(player, each);
        }
        Due.due("sum of " + each, x.count(all), sum);
    }

    private static void undo() {
        BellChairs x = new BellChairs();
        Due.due("undo of nothing", x.undo(), Due.IMPOSSIBLE);
        for (int i = 0; i < 6; i++) {
            x.chair(i);
            Due.due("states", x.count(14), Math.min(i + 1, 4));
        }
        for (int i = 0; i < 4; i++) {
            Due.due("undo", x.undo(), 3 - i);
            Due.due("chairs", x.count(1), 5 - i);
        }
        Due.due("no more", x.undo(), Due.IMPOSSIBLE);
        Due.due("chairs", x.count(1), 2);
        x.chair(9);
        x.stop();
        Due.due("errors are not kept", x.count(14), 0);
        x.type('c');
        x.clearText();
        x.fault(0);
        x.mean();
        Due.due("texts and questions are not kept", x.count(14), 0);
        x.chair(8);
        x.type('c');
        Due.due("undo leaves the text", x.undo(), 0);
        Due.due("length", x.count(15), 1);
    }

    private static void undoEach() {
        back("chair", Scenes::ready, x -> x.chair(3));
        back("player", Scenes::ready, x -> x.player(1, 1));
        back("start", Scenes::ready, x -> x.start());
        back("start", Scenes::between, x -> x.start());
        back("play", () -> Due.write(Scenes.between(), "c7;p1,1;p1,1;g;"), x -> x.play());
        back("beat", Scenes::musicAgain, x -> x.beat(7));
        back("stop", Scenes::music, x -> x.stop());
        back("stop, when it is over behind it", Scenes::musicOfTwo, x -> x.stop());
        List<Supplier<BellChairs>> phases =
                List.of(Scenes::between, Scenes::musicAgain, Scenes::over);
        for (Supplier<BellChairs> scene : phases) {
            back("tune", scene, x -> x.tune(0, 8));
            back("train", scene, x -> x.train(1, 9, 510));
            back("set", scene, x -> x.set(0, 3));
        }
    }

    /** Another change comes first, so that nothing from ahead of it lies in the history's row. */
    private static void back(String call, Supplier<BellChairs> scene, Due.Call change) {
        Supplier<BellChairs> ahead = Due.behind(scene, x -> x.set(0, 2));
        Supplier<BellChairs> changed = Due.behind(ahead, change);
        Due.due(call + " is possible", change.on(ahead.get()) >= 0 ? 1 : 0, 1);
        Due.differ(call + " changes something", ahead, changed);
        Supplier<BellChairs> undone = Due.behind(changed, x -> x.undo());
        Due.sameNow(call + " is undone", ahead, undone);
        Due.same(call + " is undone to the last", Scenes.spent(ahead), Scenes.spent(undone));
    }

    private static void undoAll() {
        Supplier<BellChairs> before = () -> {
            BellChairs x = Due.crowd(1 << 6);
            x.set(0, 3);
            return x;
        };
        Supplier<BellChairs> behind = () -> {
            BellChairs x = before.get();
            x.stop();
            x.tune(0, 1);
            x.train(0, 9, 9);
            x.start();
            Due.due("states", x.count(14), 4);
            for (int left = 3; left >= 0; left--) {
                Due.due("undo", x.undo(), left);
            }
            return x;
        };
        Due.sameNow("all is as it was", before, behind);
        Due.same("to the last", Scenes.spent(before), Scenes.spent(behind));
        Due.due("stop", behind, x -> x.stop(), 16);
    }
}
