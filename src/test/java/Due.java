import java.util.function.Supplier;

/** Counts the answers that are not as due; not a test of its own. */
final class Due {
    static final int INVALID = -1000001;
    static final int IMPOSSIBLE = -1000002;
    static final int LIMIT = -1000003;
    static final int MISSING = -1000004;

    private static int wrong;
    private static int asked;

    private Due() {
    }

    /** One call of an object. */
    interface Call {
        int on(BellChairs x);
    }

    static void due(String call, long got, long want) {
        asked++;
        if (got != want) {
            wrong++;
            System.out.println(call + " answered " + got + ", due is " + want);
        }
    }

    static void due(String call, Supplier<BellChairs> scene, Call asked, int want) {
        due(call, asked.on(scene.get()), want);
    }

    /** The call is answered by this error, and changes nothing, nor what undo brings back. */
    static void refused(String call, Supplier<BellChairs> scene, Call refused, int error) {
        due(call, refused.on(scene.get()), error);
        unchanged(call, scene, refused);
    }

    /** The call changes nothing, nor what undo brings back. */
    static void unchanged(String call, Supplier<BellChairs> scene, Call idle) {
        same(call + " changes nothing", scene, behind(scene, idle));
    }

    /** Both tell the same now, whatever their histories are. */
    static void sameNow(String label, Supplier<BellChairs> one, Supplier<BellChairs> other) {
        due(label, Told.now(one).equals(Told.now(other)) ? 1 : 0, 1);
    }

    static void same(String label, Supplier<BellChairs> one, Supplier<BellChairs> other) {
        due(label, Told.of(one).equals(Told.of(other)) ? 1 : 0, 1);
    }

    static void differ(String label, Supplier<BellChairs> one, Supplier<BellChairs> other) {
        due(label, Told.now(one).equals(Told.now(other)) ? 1 : 0, 0);
    }

    static Supplier<BellChairs> behind(Supplier<BellChairs> scene, Call call) {
        return () -> {
            BellChairs x = scene.get();
            call.on(x);
            return x;
        };
    }

    static void end() {
        System.out.println(asked + " answers, " + wrong + " of them not as due");
        if (wrong != 0 || asked == 0) {
            System.exit(1);
        }
    }

    /** A new object with chairs of these tones and players of these strides, who hear nothing. */
    static BellChairs made(int[] tones, int[] strides) {
        BellChairs x = new BellChairs();
        for (int tone : tones) {
            x.chair(tone);
        }
        for (int stride : strides) {
            x.player(stride, 0);
        }
        return x;
    }

    static BellChairs write(BellChairs x, String text) {
        x.clearText();
        for (int i = 0; i < text.length(); i++) {
            due("type of " + text, x.type(text.charAt(i)), i + 1);
        }
        return x;
    }

    /** Four chairs, five players; behind one beat they are at the places 0, 0, 1, 1, 1. */
    static BellChairs crowd(int earOfOne) {
        BellChairs x = made(new int[] {5, 6, 7, 8}, new int[] {0, 3, 3, 2, 1});
        x.train(1, 3, earOfOne);
        x.start();
        x.beat(1);
        return x;
    }
}
