/** All that an object tells but its history, as one text; not a test of its own. */
final class Told {
    private Told() {
    }

    static String of(BellChairs x) {
        StringBuilder told = new StringBuilder();
        for (int what = 0; what <= 20; what++) {
            if (what != 14) {
                told.append(x.count(what)).append(' ');
            }
        }
        told.append(x.mean()).append(' ').append(x.outs()).append('\n');
        for (int place = 0; place <= 16; place++) {
            for (int what = 0; what < 3; what++) {
                told.append(x.chairOf(place, what)).append(' ');
            }
        }
        told.append('\n');
        for (int player = 0; player <= 12; player++) {
            for (int what = 0; what < 9; what++) {
                told.append(x.playerOf(player, what)).append(' ');
            }
            for (int what = 0; what < 3; what++) {
                told.append(x.ifStopped(player, what)).append(' ');
            }
            told.append(x.safeIn(player)).append('\n');
        }
        for (int ago = 0; ago <= 12; ago++) {
            for (int what = 0; what < 5; what++) {
                told.append(x.bell(ago, what)).append(' ');
            }
        }
        return told.toString();
    }
}
