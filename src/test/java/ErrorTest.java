import java.util.function.Supplier;

/** Which error is returned where several apply, and that none of these calls changes anything. */
public final class ErrorTest {
    private static final int FAR = Integer.MAX_VALUE;

    public static void main(String[] args) {
        chair();
        player();
        tuneAndTrain();
        beat();
        set();
        questions();
        bell();
        ifStopped();
        safeIn();
        count();
        type();
        fault();
        play();
        causes();
        questionsChangeNothing();
        Due.end();
    }

    private static void chair() {
        Due.refused("range ahead of phase, music", Scenes::music, x -> x.chair(9), Due.INVALID);
        Due.refused("range ahead of phase, over", Scenes::over, x -> x.chair(-1), Due.INVALID);
        Due.refused("range ahead of limit", Scenes::fullRing, x -> x.chair(9), Due.INVALID);
        Due.refused("range ahead of limit", Scenes::fullRing, x -> x.chair(-1), Due.INVALID);
        Due.refused("phase, music", Scenes::music, x -> x.chair(0), Due.IMPOSSIBLE);
        Due.refused("phase, over", Scenes::over, x -> x.chair(0), Due.IMPOSSIBLE);
        Due.refused("limit", Scenes::fullRing, x -> x.chair(0), Due.LIMIT);
    }

    private static void player() {
        Due.refused("range ahead of phase", Scenes::music, x -> x.player(10, 0), Due.INVALID);
        Due.refused("range ahead of phase", Scenes::over, x -> x.player(0, 512), Due.INVALID);
        Due.refused("range ahead of limit", Scenes::fullCrowd, x -> x.player(-1, 0), Due.INVALID);
        Due.refused("range ahead of limit", Scenes::fullCrowd, x -> x.player(0, -1), Due.INVALID);
        Due.refused("range ahead of both", Scenes::fullMusic, x -> x.player(10, 512), Due.INVALID);
        Due.refused("phase ahead of limit", Scenes::fullMusic, x -> x.player(0, 0), Due.IMPOSSIBLE);
        Due.refused("limit", Scenes::fullCrowd, x -> x.player(0, 0), Due.LIMIT);
        Supplier<BellChairs> fullAndOver = () -> {
            BellChairs x = Due.made(new int[1], new int[12]);
            x.start();
            x.stop();
            return x;
        };
        Due.refused("phase ahead of limit, over", fullAndOver, x -> x.player(0, 0), Due.IMPOSSIBLE);
    }

    private static void tuneAndTrain() {
        Due.refused("tune, both bad", Scenes::ready, x -> x.tune(2, 9), Due.INVALID);
        Due.refused("tune, place alone", Scenes::ready, x -> x.tune(2, 0), Due.INVALID);
        Due.refused("tune, tone alone", Scenes::ready, x -> x.tune(1, 9), Due.INVALID);
        Due.refused("train, all bad", Scenes::ready, x -> x.train(3, 10, 512), Due.INVALID);
        Due.refused("train, player alone", Scenes::ready, x -> x.train(3, 1, 1), Due.INVALID);
        Due.refused("train, stride alone", Scenes::ready, x -> x.train(2, 10, 1), Due.INVALID);
        Due.refused("train, ear alone", Scenes::ready, x -> x.train(2, 1, 512), Due.INVALID);
    }

    private static void beat() {
        Due.refused("range ahead of phase", Scenes::ready, x -> x.beat(0), Due.INVALID);
        Due.refused("range ahead of phase", Scenes::over, x -> x.beat(100), Due.INVALID);
        Due.refused("range ahead of limit", Scenes::longMusic, x -> x.beat(100), Due.INVALID);
        Due.refused("range ahead of limit", Scenes::longMusic, x -> x.beat(0), Due.INVALID);
        Due.refused("range ahead of limit", Scenes::longMusic, x -> x.beat(FAR), Due.INVALID);
        Due.refused("limit", Scenes::longMusic, x -> x.beat(1), Due.LIMIT);
        Due.refused("phase", Scenes::ready, x -> x.beat(99), Due.IMPOSSIBLE);
    }

    private static void set() {
        Due.refused("both bad", Scenes::ready, x -> x.set(1, 4), Due.INVALID);
        Due.refused("what alone", Scenes::ready, x -> x.set(1, 2), Due.INVALID);
        Due.refused("what of count", Scenes::ready, x -> x.set(20, 2), Due.INVALID);
        Due.refused("value alone", Scenes::ready, x -> x.set(0, 4), Due.INVALID);
        Due.refused("value alone", Scenes::over, x -> x.set(0, 0), Due.INVALID);
    }

    private static void questions() {
        Due.refused("no chair, no sitter", Scenes::ready, x -> x.chairOf(2, 2), Due.INVALID);
        Due.refused("no chair, bad what", Scenes::ready, x -> x.chairOf(2, 3), Due.INVALID);
        Due.refused("bad what", Scenes::ready, x -> x.chairOf(1, 3), Due.INVALID);
        Due.refused("no sitter", Scenes::ready, x -> x.chairOf(1, 2), Due.MISSING);
        for (int what : new int[] {3, 7, 8}) {
            Due.refused("no player, nothing to tell", Scenes::ready,
                    x -> x.playerOf(3, what), Due.INVALID);
            Due.refused("nothing to tell", Scenes::ready, x -> x.playerOf(2, what), Due.MISSING);
        }
        Due.refused("no player, bad what", Scenes::ready, x -> x.playerOf(3, 9), Due.INVALID);
        Due.refused("bad what", Scenes::ready, x -> x.playerOf(2, 9), Due.INVALID);
        Due.refused("no player", Scenes::ready, x -> x.hears(3, 1), Due.INVALID);
        Due.refused("no chair", Scenes::ready, x -> x.hears(2, 2), Due.INVALID);
        Due.refused("none of both", Scenes::ready, x -> x.hears(3, 2), Due.INVALID);
        Due.due("both", Scenes::ready, x -> x.hears(2, 1), 1);
    }

    private static void bell() {
        Due.refused("range ahead of none", Scenes::ready, x -> x.bell(0, 5), Due.INVALID);
        Due.refused("range ahead of none", Scenes::ready, x -> x.bell(0, -1), Due.INVALID);
        Due.refused("range ahead of not so many", Scenes::between, x -> x.bell(3, 5), Due.INVALID);
        Due.refused("range ahead of not so many", Scenes::between, x -> x.bell(FAR, -1), Due.INVALID);
        Due.refused("both bad", Scenes::between, x -> x.bell(-1, 5), Due.INVALID);
        Due.refused("not so many", Scenes::between, x -> x.bell(3, 4), Due.MISSING);
    }

    private static void ifStopped() {
        Due.refused("no player, phase", Scenes::ready, x -> x.ifStopped(3, 0), Due.INVALID);
        Due.refused("bad what, phase", Scenes::ready, x -> x.ifStopped(0, 3), Due.INVALID);
        Due.refused("bad what, over", Scenes::over, x -> x.ifStopped(0, -1), Due.INVALID);
        Due.refused("bad what, one who is out", Scenes::musicAgain,
                x -> x.ifStopped(3, 3), Due.INVALID);
        Due.refused("bad what, one who would get out", Scenes::musicAgain,
                x -> x.ifStopped(2, 3), Due.INVALID);
        Due.refused("no player", Scenes::musicAgain, x -> x.ifStopped(4, 0), Due.INVALID);
        Due.refused("one who is out, no seat", Scenes::musicAgain,
                x -> x.ifStopped(3, 0), Due.IMPOSSIBLE);
        Due.refused("no seat", Scenes::musicAgain, x -> x.ifStopped(2, 0), Due.MISSING);
    }

    private static void safeIn() {
        Due.refused("no player, phase", Scenes::ready, x -> x.safeIn(3), Due.INVALID);
        Due.refused("no player, over", Scenes::over, x -> x.safeIn(-1), Due.INVALID);
        Due.refused("no player", Scenes::musicAgain, x -> x.safeIn(4), Due.INVALID);
        Due.refused("one who is out", Scenes::musicAgain, x -> x.safeIn(3), Due.IMPOSSIBLE);
        Due.refused("with none of them", Scenes::musicAgain, x -> x.safeIn(2), Due.MISSING);
        Due.refused("phase", Scenes::between, x -> x.safeIn(2), Due.IMPOSSIBLE);
    }

    private static void count() {
        Due.refused("no only one", Scenes::fresh, x -> x.count(12), Due.MISSING);
        for (int what : new int[] {-1, 17, 18, 19, 21}) {
            Due.refused("count of " + what, Scenes::fresh, x -> x.count(what), Due.INVALID);
        }
        Due.refused("mean of none", Scenes::fresh, x -> x.mean(), Due.MISSING);
        Due.refused("undo of none", Scenes::fresh, x -> x.undo(), Due.IMPOSSIBLE);
        Due.refused("outs", Scenes::fresh, x -> x.outs(), Due.IMPOSSIBLE);
        Due.refused("start", Scenes::fresh, x -> x.start(), Due.IMPOSSIBLE);
        Due.refused("start, music", Scenes::musicAgain, x -> x.start(), Due.IMPOSSIBLE);
        Due.refused("stop", Scenes::between, x -> x.stop(), Due.IMPOSSIBLE);
    }

    private static void type() {
        Due.refused("range ahead of limit", Scenes::fullText, x -> x.type(31), Due.INVALID);
        Due.refused("range ahead of limit", Scenes::fullText, x -> x.type(127), Due.INVALID);
        Due.refused("limit", Scenes::fullText, x -> x.type(126), Due.LIMIT);
        Due.refused("range", Scenes::ready, x -> x.type(127), Due.INVALID);
    }

    private static void fault() {
        Due.refused("range ahead of no text", Scenes::fresh, x -> x.fault(3), Due.INVALID);
        Due.refused("range ahead of no fault", () -> Due.write(Scenes.ready(), "c1;"),
                x -> x.fault(-1), Due.INVALID);
        Due.refused("no fault", () -> Due.write(Scenes.ready(), "c1;"),
                x -> x.fault(0), Due.MISSING);
        Due.refused("range with a fault", () -> Due.write(Scenes.ready(), "c1"),
                x -> x.fault(3), Due.INVALID);
    }

    private static void play() {
        Due.refused("form", () -> Due.write(Scenes.ready(), "c1;c1;c"),
                x -> x.play(), Due.IMPOSSIBLE);
        Due.refused("an order that is not possible", () -> Due.write(Scenes.ready(), "g;b9;c1;"),
                x -> x.play(), Due.IMPOSSIBLE);
        Due.refused("a limit", () -> Due.write(Scenes.fullRing(), "p1,1;c1;"),
                x -> x.play(), Due.IMPOSSIBLE);
        Due.refused("a range", () -> Due.write(Scenes.musicAgain(), "b1;s;b0;"),
                x -> x.play(), Due.IMPOSSIBLE);
        Due.refused("form, over", () -> Due.write(Scenes.over(), ";"),
                x -> x.play(), Due.IMPOSSIBLE);
    }

    /** An order's cause is the error that goes ahead of the others, too. */
    private static void causes() {
        cause("c9;", Scenes::musicAgain, Due.INVALID);
        cause("c9;", Scenes::fullRing, Due.INVALID);
        cause("c8;", Scenes::fullRing, Due.LIMIT);
        cause("c8;", Scenes::over, Due.IMPOSSIBLE);
        cause("p10,0;", Scenes::fullMusic, Due.INVALID);
        cause("p0,512;", Scenes::fullMusic, Due.INVALID);
        cause("p9,511;", Scenes::fullMusic, Due.IMPOSSIBLE);
        cause("p9,511;", Scenes::fullCrowd, Due.LIMIT);
        cause("b0;", Scenes::longMusic, Due.INVALID);
        cause("b100;", Scenes::longMusic, Due.INVALID);
        cause("b99;", Scenes::longMusic, Due.LIMIT);
        cause("b99;", Scenes::over, Due.IMPOSSIBLE);
        cause("b100;", Scenes::over, Due.INVALID);
        cause("g;", Scenes::musicAgain, Due.IMPOSSIBLE);
        cause("g;", Scenes::fresh, Due.IMPOSSIBLE);
        cause("s;", Scenes::between, Due.IMPOSSIBLE);
    }

    private static void cause(String text, Supplier<BellChairs> scene, int due) {
        Supplier<BellChairs> written = () -> Due.write(scene.get(), text);
        Due.due(text + ": position", written, x -> x.fault(0), 0);
        Due.due(text + ": reason", written, x -> x.fault(1), 2);
        Due.due(text + ": cause", written, x -> x.fault(2), due);
        Due.refused(text + ": play", written, x -> x.play(), Due.IMPOSSIBLE);
    }

    private static void questionsChangeNothing() {
        Supplier<BellChairs> music = () -> Due.write(Scenes.musicAgain(), "b3;s;g;b2;s;");
        for (int what = 0; what <= 20; what++) {
            int asked = what;
            Due.unchanged("count " + what, music, x -> x.count(asked));
        }
        for (int player = 0; player <= 3; player++) {
            int asked = player;
            Due.unchanged("ifStopped", music, x -> x.ifStopped(asked, 0));
            Due.unchanged("safeIn", music, x -> x.safeIn(asked));
            Due.unchanged("playerOf", music, x -> x.playerOf(asked, 8));
            Due.unchanged("hears", music, x -> x.hears(asked, 1));
        }
        Due.unchanged("outs", music, x -> x.outs());
        Due.unchanged("mean", music, x -> x.mean());
        Due.unchanged("bell", music, x -> x.bell(2, 4));
        Due.unchanged("chairOf", music, x -> x.chairOf(1, 2));
        Due.due("no fault", music, x -> x.fault(0), Due.MISSING);
        Due.unchanged("fault", music, x -> x.fault(0));
    }
}
