/** Promises 1 to 5. */
public final class ChairsPlayersTest {
    public static void main(String[] args) {
        newObject();
        chairs();
        chairsInPhases();
        players();
        playersInPhases();
        tune();
        train();
        Due.end();
    }

    private static void newObject() {
        BellChairs x = new BellChairs();
        for (int what : new int[] {0, 1, 2, 3, 4, 5, 6, 7, 8, 9, 10, 11, 13, 14, 15, 16}) {
            Due.due("new: count(" + what + ")", x.count(what), 0);
        }
        Due.due("new: count(12)", x.count(12), Due.MISSING);
        Due.due("new: count(20)", x.count(20), 1);
        Due.due("new: chairOf", x.chairOf(0, 0), Due.INVALID);
        Due.due("new: playerOf", x.playerOf(0, 0), Due.INVALID);
        Due.due("new: bell", x.bell(0, 0), Due.MISSING);
        Due.due("new: undo", x.undo(), Due.IMPOSSIBLE);
        x.chair(1);
        Due.due("another object has no chair", new BellChairs().count(1), 0);
    }

    private static void chairs() {
        BellChairs x = new BellChairs();
        for (int tone : new int[] {-1, 9, 10, Integer.MIN_VALUE, Integer.MAX_VALUE}) {
            Due.due("chair(" + tone + ")", x.chair(tone), Due.INVALID);
        }
        for (int place = 0; place < 16; place++) {
            Due.due("chair", x.chair(place % 9), place);
            Due.due("its tone", x.chairOf(place, 0), place % 9);
            Due.due("its sittings", x.chairOf(place, 1), 0);
            Due.due("its sitter", x.chairOf(place, 2), Due.MISSING);
        }
        Due.due("chair 17", x.chair(0), Due.LIMIT);
        Due.due("bad tone of chair 17", x.chair(9), Due.INVALID);
        Due.due("chairs", x.count(1), 16);
        Due.due("states", x.count(14), 4);
    }

    private static void chairsInPhases() {
        BellChairs x = Due.made(new int[1], new int[2]);
        x.start();
        Due.due("chair with the music", x.chair(0), Due.IMPOSSIBLE);
        Due.due("bad chair with the music", x.chair(9), Due.INVALID);
        x.stop();
        Due.due("chair when it is over", x.chair(0), Due.IMPOSSIBLE);
        Due.due("bad chair when it is over", x.chair(-1), Due.INVALID);
        x = Due.made(new int[2], new int[3]);
        x.start();
        x.stop();
        Due.due("chair between the rounds", x.chair(3), 1);
    }

    private static void players() {
        BellChairs x = new BellChairs();
        int[][] bad = {{-1, 0}, {10, 0}, {0, -1}, {0, 512}, {Integer.MIN_VALUE, 0},
            {0, Integer.MIN_VALUE}, {Integer.MAX_VALUE, 0}, {0, Integer.MAX_VALUE}};
        for (int[] pair : bad) {
            Due.due("player(" + pair[0] + ", " + pair[1] + ")", x.player(pair[0], pair[1]), Due.INVALID);
        }
        for (int number = 0; number < 12; number++) {
            int ear = number == 11 ? 511 : number * 40;
            Due.due("player", x.player(number % 10, ear), number);
            Due.due("stride", x.playerOf(number, 0), number % 10);
            Due.due("ear", x.playerOf(number, 1), ear);
            Due.due("in play", x.playerOf(number, 2), 1);
        }
        Due.due("player 13", x.player(0, 0), Due.LIMIT);
        Due.due("bad player 13", x.player(10, 0), Due.INVALID);
        Due.due("players", x.count(2), 12);
        Due.due("in play", x.count(3), 4095);
    }

    private static void playersInPhases() {
        BellChairs x = Due.made(new int[1], new int[12]);
        x.start();
        Due.due("player with the music, ahead of the limit", x.player(0, 0), Due.IMPOSSIBLE);
        Due.due("bad player with the music", x.player(0, 512), Due.INVALID);
        x = Due.made(new int[2], new int[3]);
        x.start();
        x.stop();
        Due.due("player between the rounds", x.player(4, 5), 3);
        Due.due("in play", x.count(3), 0b1011);
        Due.due("start with the new one", x.start(), 3);
        Due.due("place of the new one", x.playerOf(3, 3), 0);
        x.stop();
        x = Due.made(new int[1], new int[2]);
        x.start();
        x.stop();
        Due.due("player when it is over", x.player(0, 0), Due.IMPOSSIBLE);
    }

    private static void tune() {
        BellChairs x = Due.made(new int[] {3, 4}, new int[3]);
        Due.due("tune(-1, 0)", x.tune(-1, 0), Due.INVALID);
        Due.due("tune(2, 0)", x.tune(2, 0), Due.INVALID);
        Due.due("tune(0, 9)", x.tune(0, 9), Due.INVALID);
        Due.due("tune(0, -1)", x.tune(0, -1), Due.INVALID);
        Due.due("tune(MIN, 0)", x.tune(Integer.MIN_VALUE, 0), Due.INVALID);
        Due.due("tune(MAX, 0)", x.tune(Integer.MAX_VALUE, 0), Due.INVALID);
        Due.due("tune(1, 8)", x.tune(1, 8), 4);
        Due.due("tune(1, 0)", x.tune(1, 0), 8);
        Due.due("tone 0", x.chairOf(0, 0), 3);
        Due.due("tone 1", x.chairOf(1, 0), 0);
        Due.due("undo", x.undo(), 3);
        Due.due("tone 1 before", x.chairOf(1, 0), 8);
        x.start();
        Due.due("tune with the music", x.tune(0, 2), 3);
        x.stop();
        Due.due("a taken chair is not tuned", x.tune(1, 2), Due.INVALID);
        x.start();
        x.stop();
        Due.due("tune when it is over", x.tune(0, 7), 2);
    }

    private static void train() {
        BellChairs x = Due.made(new int[] {3}, new int[] {6, 7});
        int[][] bad = {{-1, 0, 0}, {2, 0, 0}, {0, -1, 0}, {0, 10, 0}, {0, 0, -1}, {0, 0, 512},
            {Integer.MIN_VALUE, 0, 0}, {Integer.MAX_VALUE, 0, 0}};
        for (int[] row : bad) {
            Due.due("train(" + row[0] + ", " + row[1] + ", " + row[2] + ")",
                    x.train(row[0], row[1], row[2]), Due.INVALID);
        }
        Due.due("train(1, 9, 511)", x.train(1, 9, 511), 0);
        Due.due("train(1, 0, 5)", x.train(1, 0, 5), 511);
        Due.due("stride of 1", x.playerOf(1, 0), 0);
        Due.due("ear of 1", x.playerOf(1, 1), 5);
        Due.due("stride of 0", x.playerOf(0, 0), 6);
        Due.due("ear of 0", x.playerOf(0, 1), 0);
        x.start();
        x.stop();
        Due.due("train one who is out", x.train(1, 3, 6), 5);
        Due.due("stride of one who is out", x.playerOf(1, 0), 3);
        Due.due("still out", x.playerOf(1, 2), 0);
    }
}
