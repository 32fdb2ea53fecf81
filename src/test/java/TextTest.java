import java.util.function.Supplier;

/** Promises 20 to 23. */
public final class TextTest {
    public static void main(String[] args) {
        type();
        clearText();
        formFaults();
        eachSignThatBreaksOff();
        digits();
        theFirstOfSeveralFaults();
        refusals();
        faultArguments();
        play();
        playIsOneChange();
        playWithTheSetting();
        theTextStays();
        Due.end();
    }

    private static void type() {
        BellChairs x = new BellChairs();
        for (int bad : new int[] {31, 127, 0, -1, 128, Integer.MIN_VALUE, Integer.MAX_VALUE}) {
            Due.due("type(" + bad + ")", x.type(bad), Due.INVALID);
        }
        Due.due("type(32)", x.type(32), 1);
        Due.due("type(126)", x.type(126), 2);
        for (int length = 3; length <= 60; length++) {
            Due.due("type", x.type('g'), length);
        }
        Due.due("type of the 61st", x.type('g'), Due.LIMIT);
        Due.due("type of a bad 61st", x.type(31), Due.INVALID);
        Due.due("length", x.count(15), 60);
        Due.due("no change", x.count(14), 0);
    }

    private static void clearText() {
        BellChairs x = new BellChairs();
        Due.due("clear of nothing", x.clearText(), 0);
        Due.write(x, "c1;zz");
        Due.due("clear", x.clearText(), 5);
        Due.due("clear again", x.clearText(), 0);
        Due.due("length", x.count(15), 0);
        Due.due("no fault is left", x.fault(0), Due.MISSING);
        Due.due("no change", x.count(14), 0);
    }

    private static void formFaults() {
        fault("x", 0, 1, 0);
        fault(";", 0, 1, 0);
        fault(" c1;", 0, 1, 0);
        fault("C1;", 0, 1, 0);
        fault("c", 0, 1, 1);
        fault("c;", 0, 1, 1);
        fault("c-1;", 0, 1, 1);
        fault("c1", 0, 1, 2);
        fault("c1,", 0, 1, 2);
        fault("c001", 0, 1, 4);
        fault("c0010;", 0, 1, 4);
        fault("p", 0, 1, 1);
        fault("p,", 0, 1, 1);
        fault("p1;", 0, 1, 2);
        fault("p1,", 0, 1, 3);
        fault("p1,;", 0, 1, 3);
        fault("p001,005", 0, 1, 8);
        fault("p001,0051;", 0, 1, 8);
        fault("p0001,1;", 0, 1, 4);
        fault("p1,2,3;", 0, 1, 4);
        fault("b", 0, 1, 1);
        fault("bx;", 0, 1, 1);
        fault("g", 0, 1, 1);
        fault("g1;", 0, 1, 1);
        fault("s", 0, 1, 1);
        fault("s ;", 0, 1, 1);
        fault("c1;c2", 3, 1, 2);
        fault("c1;c2;;", 6, 1, 0);
        fault("c001;p009,511;q", 14, 1, 0);
    }

    /** Every sign but those that may go on, as the order's last one and ahead of its end. */
    private static void eachSignThatBreaksOff() {
        String digits = "0123456789";
        breaksOff("", "cpbgs");
        breaksOff("c", digits);
        breaksOff("c0", digits + ";");
        breaksOff("c00", digits + ";");
        breaksOff("c000", ";");
        breaksOff("b", digits);
        breaksOff("b0", digits + ";");
        breaksOff("b000", ";");
        breaksOff("p", digits);
        breaksOff("p0", digits + ",");
        breaksOff("p000", ",");
        breaksOff("p0,", digits);
        breaksOff("p0,0", digits + ";");
        breaksOff("p0,00", digits + ";");
        breaksOff("p0,000", ";");
        breaksOff("g", ";");
        breaksOff("s", ";");
    }

    private static void breaksOff(String begun, String allowed) {
        for (char sign = 32; sign <= 126; sign++) {
            if (allowed.indexOf(sign) < 0) {
                Supplier<BellChairs> scene = broken("c1;" + begun + sign + ";");
                Due.due("position: " + begun + sign, scene, x -> x.fault(0), 3);
                Due.due("reason: " + begun + sign, scene, x -> x.fault(1), 1);
                Due.due("cause: " + begun + sign, scene, x -> x.fault(2), begun.length());
            }
        }
        if (!begun.isEmpty()) {
            Supplier<BellChairs> cut = broken("c1;" + begun);
            Due.due("position of the cut " + begun, cut, x -> x.fault(0), 3);
            Due.due("reason of the cut " + begun, cut, x -> x.fault(1), 1);
            Due.due("cause of the cut " + begun, cut, x -> x.fault(2), begun.length());
        }
    }

    private static Supplier<BellChairs> broken(String text) {
        return () -> Due.write(new BellChairs(), text);
    }

    /** Numbers of one to three digits are the same with a 0 ahead. */
    private static void digits() {
        for (String number : new String[] {"7", "07", "007"}) {
            Due.due("tone " + number, Scenes.byText("c" + number + ";").chairOf(0, 0), 7);
            Due.due("stride " + number, Scenes.byText("p" + number + ",1;").playerOf(0, 0), 7);
            Due.due("ear " + number, Scenes.byText("p1," + number + ";").playerOf(0, 1), 7);
            Due.due("beats " + number,
                    Scenes.byText("c1;p1,1;p1,1;g;b" + number + ";").count(5), 7);
        }
        Due.due("ear of three digits", Scenes.byText("p9,511;").playerOf(0, 1), 511);
        Due.due("beats of two digits", Scenes.byText("c1;p1,1;p1,1;g;b99;").count(5), 99);
        Due.due("the least tone", Scenes.byText("c000;").chairOf(0, 0), 0);
        Due.due("the least stride and ear", Scenes.byText("p000,000;").playerOf(0, 1), 0);
        fault("c999;", 0, 2, Due.INVALID);
        fault("p999,000;", 0, 2, Due.INVALID);
        fault("p000,999;", 0, 2, Due.INVALID);
        fault("b999;", 0, 2, Due.INVALID);
        fault("b000;", 0, 2, Due.INVALID);
    }

    private static void theFirstOfSeveralFaults() {
        fault("c1;c9;x;s;", 3, 2, Due.INVALID);
        fault("c1;x;c9;s;", 3, 1, 0);
        fault("s;c9;", 0, 2, Due.IMPOSSIBLE);
        fault("c9;s;", 0, 2, Due.INVALID);
        fault(";;", 0, 1, 0);
        // Whether an order is possible is told by those ahead of it, not by how it is now.
        threeFaults("a second start", () -> Due.write(Scenes.ready(), "g;g;"),
                2, 2, Due.IMPOSSIBLE);
        threeFaults("a start behind one chair more", () -> Due.write(Scenes.ready(), "c1;g;c1;"),
                3, 2, Due.IMPOSSIBLE);
        threeFaults("a round behind the last one", () -> Due.write(Scenes.musicOfTwo(), "s;g;"),
                2, 2, Due.IMPOSSIBLE);
    }

    private static void refusals() {
        fault("c9;", 0, 2, Due.INVALID);
        fault("c999;", 0, 2, Due.INVALID);
        fault("p10,0;", 0, 2, Due.INVALID);
        fault("p9,512;", 0, 2, Due.INVALID);
        fault("b1;", 0, 2, Due.IMPOSSIBLE);
        fault("b0;", 0, 2, Due.INVALID);
        fault("b100;", 0, 2, Due.INVALID);
        fault("g;", 0, 2, Due.IMPOSSIBLE);
        fault("s;", 0, 2, Due.IMPOSSIBLE);
        fault("s;x", 0, 2, Due.IMPOSSIBLE);
        fault("c1;p1,1;p1,1;g;g;x", 15, 2, Due.IMPOSSIBLE);
        fault("c1;p1,1;p1,1;g;c1;", 15, 2, Due.IMPOSSIBLE);
        fault("c1;p1,1;p1,1;g;s;s;", 17, 2, Due.IMPOSSIBLE);
        threeFaults("the seventeenth chair",
                () -> Due.write(Due.made(new int[15], new int[11]), "c1;c1;"), 3, 2, Due.LIMIT);
        threeFaults("the thirteenth player",
                () -> Due.write(Due.made(new int[15], new int[11]), "p1,1;p1,1;"), 5, 2, Due.LIMIT);
        String longRound = "g;b99;b99;b99;b99;b99;b99;b99;b99;b99;b99;b9;b1;";
        threeFaults("the thousandth beat", () -> Due.write(Scenes.ready(), longRound),
                45, 2, Due.LIMIT);
        threeFaults("with the music", () -> Due.write(Scenes.music(), longRound),
                0, 2, Due.IMPOSSIBLE);
    }

    private static void fault(String text, int position, int reason, int cause) {
        threeFaults(text, () -> Due.write(new BellChairs(), text), position, reason, cause);
    }

    private static void threeFaults(
            String label, Supplier<BellChairs> scene, int position, int reason, int cause) {
        Due.due("position: " + label, scene, x -> x.fault(0), position);
        Due.due("reason: " + label, scene, x -> x.fault(1), reason);
        Due.due("cause: " + label, scene, x -> x.fault(2), cause);
        Due.refused("play: " + label, scene, x -> x.play(), Due.IMPOSSIBLE);
    }

    private static void faultArguments() {
        BellChairs x = new BellChairs();
        for (int what : new int[] {-1, 3, Integer.MIN_VALUE, Integer.MAX_VALUE}) {
            Due.due("fault(" + what + ") of no text", x.fault(what), Due.INVALID);
        }
        for (int what = 0; what < 3; what++) {
            Due.due("fault(" + what + ") of no text", x.fault(what), Due.MISSING);
        }
        Due.write(x, "c000;c08;p0,0;p009,511;p1,1;g;b099;s;");
        for (int what = 0; what < 3; what++) {
            Due.due("fault(" + what + ") of a good text", x.fault(what), Due.MISSING);
        }
        Due.due("fault(3) of a good text", x.fault(3), Due.INVALID);
        Due.due("fault changes nothing", x.count(1), 0);
        Due.due("play", x.play(), 8);
        Due.due("chairs", x.count(1), 1);
        Due.due("still no fault", x.fault(0), Due.MISSING);
        x.start();
        Due.due("a fault with the music", x.fault(0), 0);
        Due.due("its reason", x.fault(1), 2);
    }

    private static void play() {
        String text = "c0;c1;p1,0;p2,511;p0,2;g;b2;s;g;b1;";
        BellChairs x = Due.write(new BellChairs(), text);
        Due.due("play", x.play(), 10);
        Due.due("phase", x.count(0), 1);
        Due.due("beats", x.count(5), 1);
        Due.due("rounds", x.count(4), 1);
        Due.due("length", x.count(15), 35);
        Due.same("as by calls",
                Scenes.spent(() -> played(text)), Scenes.spent(() -> called(text)));
        Due.due("undo", x.undo(), 0);
        Due.due("chairs before", x.count(1), 0);
        Due.due("players before", x.count(2), 0);
        Due.due("length still", x.count(15), 35);
        Due.due("play again", x.play(), 10);
        Due.write(x, "s;");
        Due.due("stop", x.play(), 1);
        Due.due("stop again", x.play(), Due.IMPOSSIBLE);
    }

    private static BellChairs played(String text) {
        BellChairs x = Due.write(new BellChairs(), text);
        x.play();
        return x;
    }

    private static BellChairs called(String text) {
        BellChairs x = new BellChairs();
        x.chair(0);
        x.chair(1);
        x.player(1, 0);
        x.player(2, 511);
        x.player(0, 2);
        x.start();
        x.beat(2);
        x.stop();
        x.start();
        x.beat(1);
        return Due.write(x, text);
    }

    private static void playIsOneChange() {
        BellChairs x = new BellChairs();
        Due.due("play of no orders", x.play(), 0);
        Due.due("is a change", x.count(14), 1);
        Due.write(x, "c1;c1;c1;c1;c1;c1;");
        Due.due("play of six", x.play(), 6);
        Due.due("is one change", x.count(14), 2);
        for (int i = 0; i < 3; i++) {
            x.clearText();
            x.play();
        }
        Due.due("states", x.count(14), 4);
        x.undo();
        x.undo();
        x.undo();
        Due.due("chairs", x.count(1), 6);
        Due.due("undo", x.undo(), 0);
        Due.due("no chairs", x.count(1), 0);
        Due.due("the first one was dropped", x.undo(), Due.IMPOSSIBLE);
    }

    private static void playWithTheSetting() {
        BellChairs x = Due.made(new int[5], new int[6]);
        x.set(0, 3);
        Due.write(x, "g;s;");
        Due.due("play", x.play(), 2);
        Due.due("chairs of five players less three", x.count(1), 2);
        Due.due("the setting stays", x.count(20), 3);
        x.undo();
        Due.due("the setting stays", x.count(20), 3);
        x.undo();
        Due.due("the setting ahead of it", x.count(20), 1);
        Due.due("play", x.play(), 2);
        Due.due("chairs of five players less one", x.count(1), 4);
    }

    private static void theTextStays() {
        BellChairs x = Due.write(Scenes.ready(), "g;");
        Due.due("play", x.play(), 1);
        Due.due("the text stays with play", x.count(15), 2);
        Due.due("its fault now", x.fault(2), Due.IMPOSSIBLE);
        Due.due("play with a fault", x.play(), Due.IMPOSSIBLE);
        Due.due("the text stays with a fault", x.count(15), 2);
        Due.due("undo", x.undo(), 3);
        Due.due("the text stays with undo", x.count(15), 2);
        Due.due("it is possible again", x.fault(0), Due.MISSING);
        x.type('x');
        Due.due("undo", x.undo(), 2);
        Due.due("undo takes back no character", x.count(15), 3);
        Due.due("play with a fault behind a good order", x.play(), Due.IMPOSSIBLE);
        Due.due("none of it is done", x.count(0), 0);
        x.set(0, 2);
        Due.due("clearText", x.clearText(), 3);
        Due.due("undo", x.undo(), 2);
        Due.due("undo brings back no text", x.count(15), 0);
    }
}
