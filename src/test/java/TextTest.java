/** Promises 20 to 23. */
public final class TextTest {
    public static void main(String[] args) {
        type();
        clearText();
        formFaults();
        refusals();
        faultArguments();
        play();
        playIsOneChange();
        Due.end();
    }

    private static void type() {
        BellChairs x = new BellChairs();
        for (int bad : new int[] {31, 127, 0, -1, 128, Integer.MIN_VALUE, Integer.MAX_VALUE}) {
            Due.due("type(" + bad + ")", x.type(bad), Due.INVALID);
        }
        Due.due("type(32)", x.type(32), 1);
        Due.due("type(126)", x.type(126), 2);
        for (int length = 3; length <= 60; length++) {
            Due.due("type", x.type('g'), length);
        }
        Due.due("type of the 61st", x.type('g'), Due.LIMIT);
        Due.due("type of a bad 61st", x.type(31), Due.INVALID);
        Due.due("length", x.count(15), 60);
        Due.due("no change", x.count(14), 0);
    }

    private static void clearText() {
        BellChairs x = new BellChairs();
        Due.due("clear of nothing", x.clearText(), 0);
        Due.write(x, "c1;zz");
        Due.due("clear", x.clearText(), 5);
        Due.due("clear again", x.clearText(), 0);
        Due.due("length", x.count(15), 0);
        Due.due("no fault is left", x.fault(0), Due.MISSING);
        Due.due("no change", x.count(14), 0);
    }

    private static void formFaults() {
        fault("x", 0, 1, 0);
        fault(";", 0, 1, 0);
        fault(" c1;", 0, 1, 0);
        fault("C1;", 0, 1, 0);
        fault("c", 0, 1, 1);
        fault("c;", 0, 1, 1);
        fault("c-1;", 0, 1, 1);
        fault("c1", 0, 1, 2);
        fault("c1,", 0, 1, 2);
        fault("c001", 0, 1, 4);
        fault("c0010;", 0, 1, 4);
        fault("p", 0, 1, 1);
        fault("p,", 0, 1, 1);
        fault("p1;", 0, 1, 2);
        fault("p1,", 0, 1, 3);
        fault("p1,;", 0, 1, 3);
        fault("p001,005", 0, 1, 8);
        fault("p001,0051;", 0, 1, 8);
        fault("p0001,1;", 0, 1, 4);
        fault("p1,2,3;", 0, 1, 4);
        fault("b", 0, 1, 1);
        fault("bx;", 0, 1, 1);
        fault("g", 0, 1, 1);
        fault("g1;", 0, 1, 1);
        fault("s", 0, 1, 1);
        fault("s ;", 0, 1, 1);
        fault("c1;c2", 3, 1, 2);
        fault("c1;c2;;", 6, 1, 0);
        fault("c001;p009,511;q", 14, 1, 0);
    }

    private static void refusals() {
        fault("c9;", 0, 2, Due.INVALID);
        fault("c999;", 0, 2, Due.INVALID);
        fault("p10,0;", 0, 2, Due.INVALID);
        fault("p9,512;", 0, 2, Due.INVALID);
        fault("b1;", 0, 2, Due.IMPOSSIBLE);
        fault("b0;", 0, 2, Due.INVALID);
        fault("b100;", 0, 2, Due.INVALID);
        fault("g;", 0, 2, Due.IMPOSSIBLE);
        fault("s;", 0, 2, Due.IMPOSSIBLE);
        fault("s;x", 0, 2, Due.IMPOSSIBLE);
        fault("c1;p1,1;p1,1;g;g;x", 15, 2, Due.IMPOSSIBLE);
        fault("c1;p1,1;p1,1;g;c1;", 15, 2, Due.IMPOSSIBLE);
        fault("c1;p1,1;p1,1;g;s;s;", 17, 2, Due.IMPOSSIBLE);
        BellChairs x = Due.made(new int[15], new int[11]);
        Due.write(x, "c1;c1;");
        threeFaults(x, "the seventeenth chair", 3, 2, Due.LIMIT);
        Due.write(x, "p1,1;p1,1;");
        threeFaults(x, "the thirteenth player", 5, 2, Due.LIMIT);
        x = Due.made(new int[1], new int[2]);
        Due.write(x, "g;b99;b99;b99;b99;b99;b99;b99;b99;b99;b99;b9;b1;");
        threeFaults(x, "the thousandth beat", 45, 2, Due.LIMIT);
        x.start();
        threeFaults(x, "with the music", 0, 2, Due.IMPOSSIBLE);
    }

    private static void fault(String text, int position, int reason, int cause) {
        BellChairs x = new BellChairs();
        Due.write(x, text);
        threeFaults(x, text, position, reason, cause);
    }

    private static void threeFaults(BellChairs x, String text, int position, int reason, int cause) {
        String before = Told.of(x);
        int states = x.count(14);
        Due.due("position: " + text, x.fault(0), position);
        Due.due("reason: " + text, x.fault(1), reason);
        Due.due("cause: " + text, x.fault(2), cause);
        Due.due("play: " + text, x.play(), Due.IMPOSSIBLE);
        Due.due("nothing has changed: " + text, Told.of(x).equals(before) ? 1 : 0, 1);
        Due.due("no state is kept: " + text, x.count(14), states);
    }

    private static void faultArguments() {
        BellChairs x = new BellChairs();
        for (int what : new int[] {-1, 3, Integer.MIN_VALUE, Integer.MAX_VALUE}) {
            Due.due("fault(" + what + ") of no text", x.fault(what), Due.INVALID);
        }
        for (int what = 0; what < 3; what++) {
            Due.due("fault(" + what + ") of no text", x.fault(what), Due.MISSING);
        }
        Due.write(x, "c000;c08;p0,0;p009,511;p1,1;g;b099;s;");
        for (int what = 0; what < 3; what++) {
            Due.due("fault(" + what + ") of a good text", x.fault(what), Due.MISSING);
        }
        Due.due("fault(3) of a good text", x.fault(3), Due.INVALID);
        Due.due("fault changes nothing", x.count(1), 0);
        Due.due("play", x.play(), 8);
        Due.due("chairs", x.count(1), 1);
        Due.due("still no fault", x.fault(0), Due.MISSING);
        x.start();
        Due.due("a fault with the music", x.fault(0), 0);
        Due.due("its reason", x.fault(1), 2);
    }

    private static void play() {
        BellChairs x = new BellChairs();
        Due.write(x, "c0;c1;p1,0;p2,511;p0,2;g;b2;s;g;b1;");
        Due.due("play", x.play(), 10);
        Due.due("phase", x.count(0), 1);
        Due.due("beats", x.count(5), 1);
        Due.due("rounds", x.count(4), 1);
        Due.due("length", x.count(15), 35);
        BellChairs y = new BellChairs();
        y.chair(0);
        y.chair(1);
        y.player(1, 0);
        y.player(2, 511);
        y.player(0, 2);
        y.start();
        y.beat(2);
        y.stop();
        y.start();
        y.beat(1);
        Due.write(y, "c0;c1;p1,0;p2,511;p0,2;g;b2;s;g;b1;");
        Due.due("as by calls", Told.of(x).equals(Told.of(y)) ? 1 : 0, 1);
        Due.due("undo", x.undo(), 0);
        Due.due("chairs before", x.count(1), 0);
        Due.due("players before", x.count(2), 0);
        Due.due("length still", x.count(15), 35);
        Due.due("play again", x.play(), 10);
        Due.write(x, "s;");
        Due.due("stop", x.play(), 1);
        Due.due("stop again", x.play(), Due.IMPOSSIBLE);
    }

    private static void playIsOneChange() {
        BellChairs x = new BellChairs();
        Due.due("play of no orders", x.play(), 0);
        Due.due("is a change", x.count(14), 1);
        Due.write(x, "c1;c1;c1;c1;c1;c1;");
        Due.due("play of six", x.play(), 6);
        Due.due("is one change", x.count(14), 2);
        for (int i = 0; i < 3; i++) {
            x.clearText();
            x.play();
        }
        Due.due("states", x.count(14), 4);
        x.undo();
        x.undo();
        x.undo();
        Due.due("chairs", x.count(1), 6);
        Due.due("undo", x.undo(), 0);
        Due.due("no chairs", x.count(1), 0);
        Due.due("the first one was dropped", x.undo(), Due.IMPOSSIBLE);
    }
}
