import java.util.List;
import java.util.function.Supplier;

/** Each range of an argument: its least and greatest value, one beyond each end, and far beyond. */
public final class RangeTest {
    private static final List<Supplier<BellChairs>> PHASES =
            List.of(Scenes::between, Scenes::musicAgain, Scenes::over);

    public static void main(String[] args) {
        tones();
        strides();
        ears();
        places();
        players();
        beats();
        setting();
        characters();
        whatOfChairs();
        whatOfPlayers();
        whatOfBells();
        whatWouldBe();
        whatIsCounted();
        whatOfFaults();
        Due.end();
    }

    /** One call with the argument that is looked at. */
    private interface With {
        int on(BellChairs x, int value);
    }

    /** All values of the range are taken; what lies beyond is INVALID_ARGUMENT, and changes nothing. */
    private static void range(
            String call, Supplier<BellChairs> scene, With with, int least, int greatest) {
        for (int value = least; value <= greatest; value++) {
            int answer = with.on(scene.get(), value);
            Due.due(call + " takes " + value, answer == Due.INVALID ? 1 : 0, 0);
        }
        beyond(call, scene, with, least - 1);
        beyond(call, scene, with, greatest + 1);
        beyond(call, scene, with, Integer.MIN_VALUE);
        beyond(call, scene, with, Integer.MAX_VALUE);
    }

    private static void beyond(String call, Supplier<BellChairs> scene, With with, int value) {
        Due.refused(call + " of " + value, scene, x -> with.on(x, value), Due.INVALID);
    }

    private static void tones() {
        range("chair, tone", Scenes::ready, (x, tone) -> x.chair(tone), 0, 8);
        for (Supplier<BellChairs> scene : PHASES) {
            range("tune, tone", scene, (x, tone) -> x.tune(0, tone), 0, 8);
        }
        for (int tone = 0; tone <= 8; tone++) {
            BellChairs x = Scenes.ready();
            Due.due("chair(" + tone + ")", x.chair(tone), 2);
            Due.due("its tone", x.chairOf(2, 0), tone);
            Due.due("tune(0, " + tone + ")", x.tune(0, tone), 3);
            Due.due("its tone", x.chairOf(0, 0), tone);
        }
    }

    private static void strides() {
        range("player, stride", Scenes::ready, (x, stride) -> x.player(stride, 5), 0, 9);
        for (Supplier<BellChairs> scene : PHASES) {
            range("train, stride", scene, (x, stride) -> x.train(1, stride, 5), 0, 9);
        }
        for (int stride = 0; stride <= 9; stride++) {
            BellChairs x = Scenes.ready();
            Due.due("player(" + stride + ", 5)", x.player(stride, 5), 3);
            Due.due("its stride", x.playerOf(3, 0), stride);
            Due.due("train(1, " + stride + ", 5)", x.train(1, stride, 5), 1 << 3);
            Due.due("its stride", x.playerOf(1, 0), stride);
            x.start();
            x.beat(99);
            Due.due("its steps", x.playerOf(3, 6), 99 * stride);
            Due.due("its steps", x.playerOf(1, 6), 99 * stride);
        }
    }

    private static void ears() {
        range("player, ear", Scenes::ready, (x, ear) -> x.player(5, ear), 0, 511);
        for (Supplier<BellChairs> scene : PHASES) {
            range("train, ear", scene, (x, ear) -> x.train(1, 5, ear), 0, 511);
        }
        for (int tone = 0; tone <= 8; tone++) {
            BellChairs x = Due.made(new int[] {tone}, new int[0]);
            x.player(0, 0);
            x.player(0, 511);
            x.player(0, 1 << tone);
            x.player(0, 511 - (1 << tone));
            Due.due("the least ear hears " + tone, x.hears(0, 0), 0);
            Due.due("the greatest ear hears " + tone, x.hears(1, 0), 1);
            Due.due("the ear of this tone alone", x.hears(2, 0), 1);
            Due.due("the ear of all others", x.hears(3, 0), 0);
            Due.due("ear told", x.playerOf(1, 1), 511);
            Due.due("train tells the ear before", x.train(1, 0, 0), 511);
            Due.due("train tells the ear before", x.train(1, 0, 511), 0);
        }
    }

    private static void places() {
        range("tune, place of two", Scenes::ready, (x, place) -> x.tune(place, 1), 0, 1);
        range("hears, place of two", Scenes::ready, (x, place) -> x.hears(0, place), 0, 1);
        range("tune, place of 16", Scenes::fullRing, (x, place) -> x.tune(place, 1), 0, 15);
        range("hears, place of 16", Scenes::fullRing, (x, place) -> x.hears(1, place), 0, 15);
        for (int what = 0; what <= 2; what++) {
            int asked = what;
            range("chairOf, place of two", Scenes::ready, (x, place) -> x.chairOf(place, asked), 0, 1);
            range("chairOf, place of 16", Scenes::fullRing,
                    (x, place) -> x.chairOf(place, asked), 0, 15);
            // Of the three chairs one was taken away.
            range("chairOf, place behind a round", Scenes::between,
                    (x, place) -> x.chairOf(place, asked), 0, 1);
        }
        range("tune, place behind a round", Scenes::between, (x, place) -> x.tune(place, 1), 0, 1);
        range("hears, place behind a round", Scenes::between, (x, place) -> x.hears(3, place), 0, 1);
    }

    private static void players() {
        range("train of three", Scenes::ready, (x, player) -> x.train(player, 1, 1), 0, 2);
        range("hears of three", Scenes::ready, (x, player) -> x.hears(player, 1), 0, 2);
        range("train of 12", Scenes::fullCrowd, (x, player) -> x.train(player, 1, 1), 0, 11);
        range("hears of 12", Scenes::fullCrowd, (x, player) -> x.hears(player, 10), 0, 11);
        for (int what = 0; what <= 8; what++) {
            int asked = what;
            range("playerOf of three", Scenes::ready, (x, player) -> x.playerOf(player, asked), 0, 2);
            range("playerOf of 12", Scenes::fullCrowd,
                    (x, player) -> x.playerOf(player, asked), 0, 11);
            // One who is out stays among them.
            range("playerOf of four", Scenes::musicAgain,
                    (x, player) -> x.playerOf(player, asked), 0, 3);
        }
        for (Supplier<BellChairs> scene : PHASES) {
            int greatest = scene.get().count(2) - 1;
            range("train", scene, (x, player) -> x.train(player, 9, 511), 0, greatest);
            range("safeIn", scene, (x, player) -> x.safeIn(player), 0, greatest);
            for (int what = 0; what <= 2; what++) {
                int asked = what;
                range("ifStopped", scene, (x, player) -> x.ifStopped(player, asked), 0, greatest);
            }
        }
        range("safeIn of 12", Scenes::fullMusic, (x, player) -> x.safeIn(player), 0, 11);
        range("ifStopped of 12", Scenes::fullMusic, (x, player) -> x.ifStopped(player, 2), 0, 11);
    }

    private static void beats() {
        range("beat", Scenes::music, (x, beats) -> x.beat(beats), 1, 99);
        range("beat without music", Scenes::ready, (x, beats) -> x.beat(beats), 1, 99);
        range("beat when it is over", Scenes::over, (x, beats) -> x.beat(beats), 1, 99);
        Due.due("the least", Scenes::music, x -> x.beat(1), 1);
        Due.due("the greatest", Scenes::music, x -> x.beat(99), 99);
    }

    private static void setting() {
        for (Supplier<BellChairs> scene : PHASES) {
            range("set, what", scene, (x, what) -> x.set(what, 1), 0, 0);
            range("set, value", scene, (x, value) -> x.set(0, value), 1, 3);
        }
        for (int value = 1; value <= 3; value++) {
            BellChairs x = new BellChairs();
            Due.due("the first value, told by set", x.set(0, value), 1);
            Due.due("the setting", x.count(20), value);
            Due.due("told by set", x.set(0, 1), value);
        }
        Due.due("the first value", new BellChairs().count(20), 1);
        for (int value = 1; value <= 3; value++) {
            // Of six players one gets out: there are five less the setting.
            BellChairs x = Due.made(new int[5], new int[6]);
            x.set(0, value);
            x.start();
            x.stop();
            Due.due("chairs that are left with " + value, x.count(1), 5 - value);
            Due.due("taken away with " + value, x.count(16), value);
        }
    }

    private static void characters() {
        range("type", Scenes::ready, (x, character) -> x.type(character), 32, 126);
        range("type to a full text", Scenes::fullText, (x, character) -> x.type(character), 32, 126);
        Due.due("the least", Scenes::fresh, x -> x.type(32), 1);
        Due.due("the greatest", Scenes::fresh, x -> x.type(126), 1);
        // A character is not cut to fewer bits: 99 + 256 is no "c".
        beyond("type", Scenes::fresh, (x, character) -> x.type(character), 99 + 256);
        beyond("type", Scenes::fresh, (x, character) -> x.type(character), 99 + 65536);
    }

    private static void whatOfChairs() {
        for (Supplier<BellChairs> scene : PHASES) {
            range("chairOf, what", scene, (x, what) -> x.chairOf(0, what), 0, 2);
        }
    }

    private static void whatOfPlayers() {
        for (Supplier<BellChairs> scene : PHASES) {
            range("playerOf, what", scene, (x, what) -> x.playerOf(0, what), 0, 8);
            range("playerOf, what", scene, (x, what) -> x.playerOf(2, what), 0, 8);
        }
    }

    private static void whatOfBells() {
        for (Supplier<BellChairs> scene : PHASES) {
            range("bell, what", scene, (x, what) -> x.bell(0, what), 0, 4);
        }
        range("bell of none, what", Scenes::fresh, (x, what) -> x.bell(0, what), 0, 4);
        beyond("bell, ago", Scenes::between, (x, ago) -> x.bell(ago, 0), -1);
        beyond("bell, ago", Scenes::between, (x, ago) -> x.bell(ago, 4), Integer.MIN_VALUE);
        beyond("bell of none, ago", Scenes::fresh, (x, ago) -> x.bell(ago, 0), -1);
        Due.due("the latest", Scenes::between, x -> x.bell(0, 2), 2);
        Due.due("the oldest of three", Scenes::between, x -> x.bell(2, 2), 0);
        Due.refused("one beyond", Scenes::between, x -> x.bell(3, 2), Due.MISSING);
        Due.refused("far beyond", Scenes::between, x -> x.bell(Integer.MAX_VALUE, 2), Due.MISSING);
    }

    private static void whatWouldBe() {
        for (Supplier<BellChairs> scene : PHASES) {
            range("ifStopped, what", scene, (x, what) -> x.ifStopped(0, what), 0, 2);
        }
    }

    private static void whatIsCounted() {
        for (Supplier<BellChairs> scene : PHASES) {
            range("count, what", scene, (x, what) -> x.count(what), 0, 16);
            range("count of the setting", scene, (x, what) -> x.count(what), 20, 20);
            beyond("count, what", scene, (x, what) -> x.count(what), 18);
        }
    }

    private static void whatOfFaults() {
        range("fault of no text, what", Scenes::fresh, (x, what) -> x.fault(what), 0, 2);
        range("fault of a bad text, what", () -> Due.write(Scenes.ready(), "c1;c"),
                (x, what) -> x.fault(what), 0, 2);
        range("fault of a good text, what", () -> Due.write(Scenes.ready(), "c1;"),
                (x, what) -> x.fault(what), 0, 2);
    }
}
