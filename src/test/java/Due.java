/** Counts the answers that are not as due; not a test of its own. */
final class Due {
    static final int INVALID = -1000001;
    static final int IMPOSSIBLE = -1000002;
    static final int LIMIT = -1000003;
    static final int MISSING = -1000004;

    private static int wrong;
    private static int asked;

    private Due() {
    }

    static void due(String call, long got, long want) {
        asked++;
        if (got != want) {
            wrong++;
            System.out.println(call + " answered " + got + ", due is " + want);
        }
    }

    static void end() {
        System.out.println(asked + " answers, " + wrong + " of them not as due");
        if (wrong != 0 || asked == 0) {
            System.exit(1);
        }
    }

    /** A new object with chairs of these tones and players of these strides, who hear nothing. */
    static BellChairs made(int[] tones, int[] strides) {
        BellChairs x = new BellChairs();
        for (int tone : tones) {
            x.chair(tone);
        }
        for (int stride : strides) {
            x.player(stride, 0);
        }
        return x;
    }

    static void write(BellChairs x, String text) {
        x.clearText();
        for (int i = 0; i < text.length(); i++) {
            due("type of " + text, x.type(text.charAt(i)), i + 1);
        }
    }

    /** Four chairs, five players; behind one beat they are at the places 0, 0, 1, 1, 1. */
    static BellChairs crowd(int earOfOne) {
        BellChairs x = made(new int[] {5, 6, 7, 8}, new int[] {0, 3, 3, 2, 1});
        x.train(1, 3, earOfOne);
        x.start();
        x.beat(1);
        return x;
    }
}
