/** Promises 10 to 13. */
public final class TellTest {
    public static void main(String[] args) {
        chairOf();
        playerOf();
        ticksOfRounds();
        hears();
        bell();
        bellsKept();
        bellsStayAsTheyRang();
        Due.end();
    }

    private static void chairOf() {
        BellChairs x = Due.made(new int[] {7, 8}, new int[] {0, 0, 0});
        for (int what = 0; what < 3; what++) {
            Due.due("chairOf(-1)", x.chairOf(-1, what), Due.INVALID);
            Due.due("chairOf(2)", x.chairOf(2, what), Due.INVALID);
        }
        for (int what : new int[] {-1, 3, Integer.MIN_VALUE, Integer.MAX_VALUE}) {
            Due.due("chairOf(0, " + what + ")", x.chairOf(0, what), Due.INVALID);
        }
        Due.due("no sitter", x.chairOf(1, 2), Due.MISSING);
        x.start();
        Due.due("no sitter with the music", x.chairOf(1, 2), Due.MISSING);
        x.stop();
        Due.due("sitter", x.chairOf(0, 2), 0);
        Due.due("sittings", x.chairOf(0, 1), 1);
        Due.due("taken away", x.chairOf(1, 0), Due.INVALID);
        x.start();
        Due.due("sitter of the round ahead", x.chairOf(0, 2), Due.MISSING);
        Due.due("sittings stay", x.chairOf(0, 1), 1);
        Due.due("undo", x.undo(), 3);
        Due.due("sitter again", x.chairOf(0, 2), 0);
        x.start();
        x.stop();
        Due.due("sitter when it is over", x.chairOf(0, 2), 0);
        Due.due("sittings", x.chairOf(0, 1), 2);
    }

    private static void playerOf() {
        BellChairs x = Due.made(new int[] {7, 8}, new int[] {4, 5, 6});
        for (int what = 0; what < 9; what++) {
            Due.due("playerOf(-1)", x.playerOf(-1, what), Due.INVALID);
            Due.due("playerOf(3)", x.playerOf(3, what), Due.INVALID);
        }
        for (int what : new int[] {-1, 9, Integer.MIN_VALUE, Integer.MAX_VALUE}) {
            Due.due("playerOf(0, " + what + ")", x.playerOf(0, what), Due.INVALID);
        }
        int[] fresh = {4, 0, 1, Due.MISSING, 0, 0, 0, Due.MISSING, Due.MISSING};
        for (int what = 0; what < 9; what++) {
            Due.due("fresh: playerOf(0, " + what + ")", x.playerOf(0, what), fresh[what]);
        }
        x.start();
        x.beat(3);
        int[] walked = {6, 0, 1, 0, 0, 0, 18, Due.MISSING, Due.MISSING};
        for (int what = 0; what < 9; what++) {
            Due.due("walked: playerOf(2, " + what + ")", x.playerOf(2, what), walked[what]);
        }
        // The places are 0, 0, 0: one sits at once, one at the second tick, one bumps twice.
        Due.due("stop", x.stop(), 4);
        int[] gone = {6, 0, 0, Due.MISSING, 0, 2, 18, 1, 3};
        for (int what = 0; what < 9; what++) {
            Due.due("out: playerOf(2, " + what + ")", x.playerOf(2, what), gone[what]);
        }
        int[] sitting = {5, 0, 1, Due.MISSING, 1, 1, 15, Due.MISSING, 2};
        for (int what = 0; what < 9; what++) {
            Due.due("sits: playerOf(1, " + what + ")", x.playerOf(1, what), sitting[what]);
        }
        x.start();
        x.beat(2);
        Due.due("steps of one who is out", x.playerOf(2, 6), 18);
        Due.due("place of one who is out", x.playerOf(2, 3), Due.MISSING);
        Due.due("steps", x.playerOf(1, 6), 25);
        x.stop();
        Due.due("round of 1", x.playerOf(1, 7), 2);
        Due.due("round of 2", x.playerOf(2, 7), 1);
        Due.due("bumps add up", x.playerOf(1, 5), 2);
        Due.due("sittings add up", x.playerOf(0, 4), 2);
        Due.due("place when it is over", x.playerOf(0, 3), Due.MISSING);
    }

    private static void ticksOfRounds() {
        BellChairs x = Due.made(new int[] {7, 8}, new int[] {0, 1, 0});
        x.start();
        x.beat(1);
        x.stop();
        Due.due("tick of 0", x.playerOf(0, 8), 1);
        Due.due("tick of 1", x.playerOf(1, 8), 2);
        Due.due("tick of 2", x.playerOf(2, 8), 3);
        x.start();
        Due.due("it stays with the music", x.playerOf(1, 8), 2);
        x.train(0, 1, 0);
        x.stop();
        Due.due("tick of 0 in the second round", x.playerOf(0, 8), 1);
        Due.due("tick of 2 in the first round", x.playerOf(2, 8), 3);
    }

    private static void hears() {
        BellChairs x = Due.made(new int[] {0, 8, 4}, new int[] {0});
        x.train(0, 0, 256 + 1);
        Due.due("tone 0", x.hears(0, 0), 1);
        Due.due("tone 8", x.hears(0, 1), 1);
        Due.due("tone 4", x.hears(0, 2), 0);
        x.tune(2, 8);
        Due.due("tuned", x.hears(0, 2), 1);
        x.train(0, 0, 511 - 1);
        Due.due("trained", x.hears(0, 0), 0);
        Due.due("no player", x.hears(1, 0), Due.INVALID);
        Due.due("no player", x.hears(-1, 0), Due.INVALID);
        Due.due("no chair", x.hears(0, 3), Due.INVALID);
        Due.due("no chair", x.hears(0, -1), Due.INVALID);
        Due.due("none", x.hears(Integer.MAX_VALUE, Integer.MIN_VALUE), Due.INVALID);
    }

    private static void bell() {
        BellChairs x = Due.crowd(1 << 6);
        Due.due("none yet", x.bell(0, 0), Due.MISSING);
        Due.due("bell(-1, 0)", x.bell(-1, 0), Due.INVALID);
        Due.due("bell(MIN, 0)", x.bell(Integer.MIN_VALUE, 0), Due.INVALID);
        Due.due("bell(0, -1)", x.bell(0, -1), Due.INVALID);
        Due.due("bell(0, 5)", x.bell(0, 5), Due.INVALID);
        Due.due("bell(MAX, 4)", x.bell(Integer.MAX_VALUE, 4), Due.MISSING);
        x.stop();
        int[][] rings = {{1, 3, 3, 8, 1}, {1, 2, 2, 7, 3}, {1, 1, 1, 6, 2}, {1, 1, 0, 5, 0}};
        for (int ago = 0; ago < 4; ago++) {
            for (int what = 0; what < 5; what++) {
                Due.due("bell(" + ago + ", " + what + ")", x.bell(ago, what), rings[ago][what]);
            }
        }
        Due.due("no fifth", x.bell(4, 0), Due.MISSING);
        Due.due("rings", x.count(13), 4);
        x.undo();
        Due.due("rings before", x.count(13), 0);
        Due.due("none again", x.bell(0, 0), Due.MISSING);
    }

    private static void bellsKept() {
        BellChairs x = Due.made(new int[] {0, 1, 2, 3, 4, 5, 6}, new int[8]);
        x.start();
        x.stop();
        Due.due("seven", x.count(13), 7);
        x.start();
        x.stop();
        Due.due("twelve of thirteen", x.count(13), 12);
        Due.due("the latest", x.bell(0, 2), 5);
        Due.due("its round", x.bell(0, 0), 2);
        Due.due("the first of the second round", x.bell(5, 2), 0);
        Due.due("the last of the first round", x.bell(6, 2), 6);
        Due.due("its round", x.bell(6, 0), 1);
        Due.due("the oldest", x.bell(11, 2), 1);
        Due.due("its tone", x.bell(11, 3), 1);
        Due.due("older ones are gone", x.bell(12, 0), Due.MISSING);
        Due.due("twelve, but out of range", x.bell(12, 5), Due.INVALID);
    }

    private static void bellsStayAsTheyRang() {
        BellChairs x = Due.made(new int[] {3}, new int[2]);
        x.start();
        x.stop();
        x.tune(0, 6);
        Due.due("the tone that rang", x.bell(0, 3), 3);
    }
}
