import java.util.function.Supplier;

/** States from which tests go on, each a new object; not a test of its own. */
final class Scenes {
    private Scenes() {
    }

    static BellChairs fresh() {
        return new BellChairs();
    }

    /** Phase 0, nothing played yet: the tones 3 and 8, three players. */
    static BellChairs ready() {
        BellChairs x = new BellChairs();
        x.chair(3);
        x.chair(8);
        x.player(1, 0);
        x.player(2, 1 << 3);
        x.player(3, 511);
        return x;
    }

    /** Phase 1 of the first round; nobody has walked yet. */
    static BellChairs music() {
        BellChairs x = ready();
        x.start();
        return x;
    }

    /** Phase 0 behind a round of three chairs and four players: player 3 is out, tone 8 is gone. */
    static BellChairs between() {
        BellChairs x = Due.made(new int[] {3, 5, 8}, new int[] {0, 0, 0, 1});
        x.start();
        x.stop();
        return x;
    }

    /** Phase 1 of the round behind that one. */
    static BellChairs musicAgain() {
        BellChairs x = between();
        x.start();
        x.beat(2);
        return x;
    }

    /** Phase 1, two players and one chair. */
    static BellChairs musicOfTwo() {
        BellChairs x = Due.made(new int[] {6}, new int[] {1, 2});
        x.start();
        x.beat(1);
        return x;
    }

    /** Phase 2: player 0 is left, players 1 and 2 got out in the first round. */
    static BellChairs over() {
        BellChairs x = Due.made(new int[] {4}, new int[] {0, 1, 2});
        x.start();
        x.beat(3);
        x.stop();
        return x;
    }

    /** A scene behind four changes more, so that no older states tell the histories apart. */
    static Supplier<BellChairs> spent(Supplier<BellChairs> scene) {
        return () -> {
            BellChairs x = scene.get();
            for (int value = 1; value <= 4; value++) {
                x.set(0, value % 3 + 1);
            }
            return x;
        };
    }

    /** 16 chairs and two players. */
    static BellChairs fullRing() {
        return Due.made(new int[] {0, 1, 2, 3, 4, 5, 6, 7, 8, 0, 1, 2, 3, 4, 5, 6}, new int[2]);
    }

    /** 12 players and eleven chairs. */
    static BellChairs fullCrowd() {
        return Due.made(new int[] {0, 1, 2, 3, 4, 5, 6, 7, 8, 0, 1}, new int[12]);
    }

    /** 12 players with the music. */
    static BellChairs fullMusic() {
        BellChairs x = fullCrowd();
        x.start();
        return x;
    }

    /** 999 beats of a round. */
    static BellChairs longMusic() {
        BellChairs x = music();
        for (int i = 0; i < 10; i++) {
            x.beat(99);
        }
        x.beat(9);
        return x;
    }

    /** What the orders of a text make of a new object: one state, and no text, is kept. */
    static BellChairs byText(String text) {
        BellChairs x = Due.write(new BellChairs(), text);
        Due.due("play of " + text, x.play() > 0 ? 1 : 0, 1);
        x.clearText();
        return x;
    }

    /** A text of 60 characters. */
    static BellChairs fullText() {
        BellChairs x = ready();
        for (int i = 0; i < 20; i++) {
            x.type('c');
            x.type('1');
            x.type(';');
        }
        return x;
    }
}
