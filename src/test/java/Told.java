import java.util.function.Supplier;

/** All that an object tells, as one text; not a test of its own. */
final class Told {
    private Told() {
    }

    /**
     * What the object tells now and behind each undo, down to the empty history. Each time a new
     * object is asked, as the document promises nothing of one behind its 512th call.
     */
    static String of(Supplier<BellChairs> maker) {
        StringBuilder told = new StringBuilder();
        for (int back = 0; back <= 5; back++) {
            BellChairs x = maker.get();
            for (int i = 0; i < back; i++) {
                told.append("undo ").append(x.undo()).append(' ');
            }
            told.append(x.count(14)).append(' ');
            tellAll(x, told);
        }
        return told.toString();
    }

    /** What the object tells now, but nothing of its history. */
    static String now(Supplier<BellChairs> maker) {
        StringBuilder told = new StringBuilder();
        tellAll(maker.get(), told);
        return told.toString();
    }

    /** Some 310 calls. */
    private static void tellAll(BellChairs x, StringBuilder told) {
        for (int what = 0; what <= 20; what++) {
            if (what != 14) {
                told.append(x.count(what)).append(' ');
            }
        }
        told.append(x.mean()).append(' ').append(x.outs()).append('\n');
        for (int place = 0; place <= 16; place++) {
            for (int what = 0; what < 3; what++) {
                told.append(x.chairOf(place, what)).append(' ');
            }
        }
        told.append('\n');
        for (int player = 0; player <= 12; player++) {
            for (int what = 0; what < 9; what++) {
                told.append(x.playerOf(player, what)).append(' ');
            }
            for (int what = 0; what < 3; what++) {
                told.append(x.ifStopped(player, what)).append(' ');
            }
            told.append(x.safeIn(player)).append('\n');
        }
        for (int ago = 0; ago <= 12; ago++) {
            for (int what = 0; what < 5; what++) {
                told.append(x.bell(ago, what)).append(' ');
            }
        }
        for (int what = 0; what < 3; what++) {
            told.append(x.fault(what)).append(' ');
        }
        told.append('\n');
    }
}
