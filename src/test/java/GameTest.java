/** Promises 6 to 9. */
public final class GameTest {
    public static void main(String[] args) {
        start();
        startAgain();
        beat();
        stop();
        stopWithBells();
        ownBellsAndTicks();
        wornChairs();
        chairsMoveUp();
        leastChairs();
        set();
        Due.end();
    }

    private static void start() {
        BellChairs x = new BellChairs();
        Due.due("start of nothing", x.start(), Due.IMPOSSIBLE);
        x.player(0, 0);
        x.player(0, 0);
        Due.due("start without chairs", x.start(), Due.IMPOSSIBLE);
        x.chair(0);
        x.chair(0);
        Due.due("start with as many chairs", x.start(), Due.IMPOSSIBLE);
        Due.due("the phase stays", x.count(0), 0);
        for (int i = 0; i < 3; i++) {
            x.player(1, 0);
        }
        Due.due("start", x.start(), 5);
        Due.due("the phase", x.count(0), 1);
        for (int player = 0; player < 5; player++) {
            Due.due("round the ring", x.playerOf(player, 3), player % 2);
        }
        Due.due("start with the music", x.start(), Due.IMPOSSIBLE);
    }

    private static void startAgain() {
        BellChairs x = Due.made(new int[] {0, 1, 2}, new int[] {0, 2, 0, 0});
        x.start();
        Due.due("who came first sits", x.stop(), 8);
        x.undo();
        x.beat(1);
        Due.due("one walked onto the first chair's place", x.playerOf(1, 3), 0);
        Due.due("stop", x.stop(), 8);
        Due.due("sitter", x.chairOf(0, 2), 0);
        x = Due.made(new int[] {0, 0}, new int[] {1, 0, 0});
        x.start();
        x.beat(1);
        // All are at the place 1, 1, 0: the players 0 and 1 aim at the chair 1, player 2 at 0.
        Due.due("stop", x.stop(), 2);
        Due.due("start of the next round", x.start(), 2);
        Due.due("place of 0", x.playerOf(0, 3), 0);
        Due.due("place of 1", x.playerOf(1, 3), Due.MISSING);
        Due.due("place of 2", x.playerOf(2, 3), 0);
        Due.due("nobody sits any more", x.chairOf(0, 2), Due.MISSING);
        Due.due("beats of the new round", x.count(5), 0);
    }

    private static void beat() {
        BellChairs x = Due.made(new int[3], new int[] {0, 1, 2, 9});
        for (int bad : new int[] {0, -1, 100, Integer.MIN_VALUE, Integer.MAX_VALUE}) {
            Due.due("beat(" + bad + ")", x.beat(bad), Due.INVALID);
        }
        Due.due("beat without music", x.beat(1), Due.IMPOSSIBLE);
        x.start();
        Due.due("beat(100) with music", x.beat(100), Due.INVALID);
        Due.due("beat(1)", x.beat(1), 1);
        int[] places = {0, 2, 1, 0};
        for (int player = 0; player < 4; player++) {
            Due.due("place of " + player, x.playerOf(player, 3), places[player]);
        }
        Due.due("beat(7)", x.beat(7), 8);
        for (int player = 0; player < 4; player++) {
            Due.due("place of " + player, x.playerOf(player, 3), 0);
            Due.due("steps of " + player, x.playerOf(player, 6), 8 * new int[] {0, 1, 2, 9}[player]);
        }
        for (int i = 1; i <= 10; i++) {
            Due.due("beat(99)", x.beat(99), 8 + 99 * i);
        }
        Due.due("to 1000", x.beat(2), Due.LIMIT);
        Due.due("too many, out of range", x.beat(100), Due.INVALID);
        Due.due("to 999", x.beat(1), 999);
        Due.due("one more", x.beat(1), Due.LIMIT);
        Due.due("beats", x.count(5), 999);
        Due.due("steps", x.count(10), 999 * 12);
        x.stop();
        Due.due("beats when it stopped", x.count(5), 0);
        Due.due("beat between the rounds", x.beat(1), Due.IMPOSSIBLE);
        x.start();
        Due.due("a new round", x.beat(1), 1);
    }

    private static void stop() {
        BellChairs x = new BellChairs();
        Due.due("stop of nothing", x.stop(), Due.IMPOSSIBLE);
        x = Due.crowd(0);
        Due.due("stop", x.stop(), 2);
        int[] bumps = {0, 4, 0, 1, 2};
        int[] ticks = {1, 5, 1, 2, 3};
        int[] sittings = {1, 0, 1, 1, 1};
        for (int player = 0; player < 5; player++) {
            Due.due("bumps of " + player, x.playerOf(player, 5), bumps[player]);
            Due.due("tick of " + player, x.playerOf(player, 8), ticks[player]);
            Due.due("sittings of " + player, x.playerOf(player, 4), sittings[player]);
            Due.due("play of " + player, x.playerOf(player, 2), sittings[player]);
        }
        Due.due("sitter of 0", x.chairOf(0, 2), 0);
        Due.due("sitter of 1", x.chairOf(1, 2), 2);
        Due.due("sitter of 2", x.chairOf(2, 2), 3);
        Due.due("one chair is gone", x.count(1), 3);
        Due.due("phase", x.count(0), 0);
        Due.due("ticks", x.count(11), 5);
        Due.due("rounds", x.count(4), 1);
        Due.due("stop without music", x.stop(), Due.IMPOSSIBLE);
    }

    private static void stopWithBells() {
        BellChairs x = Due.crowd(1 << 6);
        Due.due("stop", x.stop(), 16);
        int[] bumps = {0, 2, 0, 1, 4};
        int[] ticks = {1, 3, 1, 2, 5};
        for (int player = 0; player < 5; player++) {
            Due.due("bumps of " + player, x.playerOf(player, 5), bumps[player]);
            Due.due("tick of " + player, x.playerOf(player, 8), ticks[player]);
        }
        Due.due("out", x.playerOf(4, 2), 0);
        Due.due("in", x.playerOf(1, 2), 1);
    }

    private static void ownBellsAndTicks() {
        // Two chairs, both taken in the first tick; who hears both is out in the second.
        BellChairs x = Due.made(new int[] {1, 2}, new int[] {0, 0, 0, 0});
        x.train(3, 0, 0b110);
        x.start();
        Due.due("stop", x.stop(), 0b1100);
        Due.due("bumps of 3", x.playerOf(3, 5), 1);
        Due.due("tick of 3", x.playerOf(3, 8), 2);
        Due.due("bumps of 2", x.playerOf(2, 5), 2);
        Due.due("tick of 2", x.playerOf(2, 8), 3);
        Due.due("round of 2", x.playerOf(2, 7), 1);
        Due.due("ticks", x.count(11), 3);
        Due.due("phase", x.count(0), 0);
    }

    private static void wornChairs() {
        BellChairs x = Due.made(new int[] {5, 6, 7, 8}, new int[] {0, 0, 0, 0, 0});
        x.set(0, 3);
        x.start();
        x.stop();
        Due.due("chairs left", x.count(1), 1);
        Due.due("taken away", x.count(16), 3);
        Due.due("the first one stays", x.chairOf(0, 0), 5);
        x.chair(1);
        x.chair(2);
        Due.due("start", x.start(), 4);
        Due.due("stop", x.stop(), 8);
        Due.due("chairs left", x.count(1), 1);
        Due.due("taken away", x.count(16), 5);
        Due.due("the worn one and the last one are gone", x.chairOf(0, 0), 1);
        Due.due("its sitter moved up with it", x.chairOf(0, 2), 1);
        Due.due("its sittings too", x.chairOf(0, 1), 1);
    }

    private static void chairsMoveUp() {
        BellChairs x = Due.made(new int[] {5, 6}, new int[3]);
        x.start();
        x.stop();
        for (int tone = 1; tone <= 3; tone++) {
            x.chair(tone);
            x.player(0, 0);
        }
        Due.due("start", x.start(), 5);
        Due.due("stop", x.stop(), 32);
        Due.due("chairs", x.count(1), 3);
        int[] sitters = {1, 3, 4};
        for (int place = 0; place < 3; place++) {
            Due.due("tone", x.chairOf(place, 0), place + 1);
            Due.due("sittings", x.chairOf(place, 1), 1);
            Due.due("sitter", x.chairOf(place, 2), sitters[place]);
            Due.due("the place that it had when it rang", x.bell(2 - place, 2), place + 1);
        }
        Due.due("its end", x.chairOf(3, 0), Due.INVALID);
        Due.due("a new chair", x.chair(8), 3);
        Due.due("it was never used", x.chairOf(3, 1), 0);
        Due.due("nobody sat on it", x.chairOf(3, 2), Due.MISSING);
    }

    private static void leastChairs() {
        BellChairs x = Due.made(new int[2], new int[3]);
        x.set(0, 3);
        x.start();
        x.stop();
        Due.due("at least one chair", x.count(1), 1);
        x.start();
        x.stop();
        Due.due("phase", x.count(0), 2);
        Due.due("no chair is taken away when it is over", x.count(1), 1);
        x = Due.made(new int[5], new int[6]);
        x.set(0, 2);
        x.start();
        x.stop();
        Due.due("two fewer", x.count(1), 3);
        x.start();
        Due.due("two are out", x.stop(), 0b11000);
        Due.due("two fewer again", x.count(1), 1);
        x.set(0, 1);
        x.start();
        x.stop();
        Due.due("all is over", x.count(0), 2);
        Due.due("start when it is over", x.start(), Due.IMPOSSIBLE);
        Due.due("stop when it is over", x.stop(), Due.IMPOSSIBLE);
    }

    private static void set() {
        BellChairs x = new BellChairs();
        int[][] bad = {{-1, 1}, {1, 1}, {0, 0}, {0, 4}, {0, -1}, {20, 1},
            {Integer.MIN_VALUE, 1}, {0, Integer.MAX_VALUE}};
        for (int[] pair : bad) {
            Due.due("set(" + pair[0] + ", " + pair[1] + ")", x.set(pair[0], pair[1]), Due.INVALID);
        }
        Due.due("set(0, 3)", x.set(0, 3), 1);
        Due.due("set(0, 2)", x.set(0, 2), 3);
        Due.due("set(0, 2)", x.set(0, 2), 2);
        Due.due("the same again is a change too", x.count(14), 3);
        Due.due("set(0, 1)", x.set(0, 1), 2);
        Due.due("count(20)", x.count(20), 1);
        x = Due.made(new int[1], new int[2]);
        x.start();
        Due.due("set with the music", x.set(0, 2), 1);
        x.stop();
        Due.due("set when it is over", x.set(0, 3), 2);
    }
}
