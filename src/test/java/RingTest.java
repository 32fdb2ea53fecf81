/** The walk, the aim and the distance round the ring, past its last place. */
public final class RingTest {
    public static void main(String[] args) {
        lineUpPastTheLastPlace();
        lineUpWithoutThoseWhoAreOut();
        walkPastTheLastPlace();
        walkJustToTheLastPlace();
        walkManyTimesRound();
        walkOnOneChair();
        oneBeatAfterTheOther();
        aimPastTheLastPlace();
        nearestPastTheLastPlace();
        nearestFromTheChairBumpedInto();
        lowestOfThoseAsNear();
        lowestOnTheSamePlace();
        knownChairsArePassed();
        ownPlaceComesFirst();
        wornChairs();
        lastOfThoseAsWorn();
        Due.end();
    }

    private static BellChairs ring(int chairs, int... strides) {
        BellChairs x = Due.made(new int[chairs], strides);
        x.start();
        return x;
    }

    private static void places(String label, BellChairs x, int... places) {
        for (int player = 0; player < places.length; player++) {
            Due.due(label + ": place of " + player, x.playerOf(player, 3), places[player]);
        }
    }

    private static void lineUpPastTheLastPlace() {
        places("four for three", ring(3, new int[4]), 0, 1, 2, 0);
        places("five for three", ring(3, new int[5]), 0, 1, 2, 0, 1);
        places("seven for three", ring(3, new int[7]), 0, 1, 2, 0, 1, 2, 0);
        places("four for one", ring(1, new int[4]), 0, 0, 0, 0);
        places("twelve for eleven", ring(11, new int[12]), 0, 1, 2, 3, 4, 5, 6, 7, 8, 9, 10, 0);
    }

    private static void lineUpWithoutThoseWhoAreOut() {
        // Behind one beat the places are 0, 0, 2, 1: player 1 finds all chairs taken.
        BellChairs x = ring(3, 0, 2, 0, 1);
        x.beat(1);
        Due.due("stop", x.stop(), 0b0010);
        Due.due("start", x.start(), 3);
        places("one is out", x, 0, Due.MISSING, 1, 0);
    }

    private static void walkPastTheLastPlace() {
        BellChairs x = ring(3, 1, 1, 1, 2);
        x.beat(1);
        places("one beat", x, 1, 2, 0, 2);
        x.beat(1);
        places("two beats", x, 2, 0, 1, 1);
        x = ring(11, 1, 0, 0, 0, 0, 0, 0, 0, 0, 0, 1, 9);
        x.beat(1);
        places("past the place 10", x, 1, 1, 2, 3, 4, 5, 6, 7, 8, 9, 0, 9);
    }

    private static void walkJustToTheLastPlace() {
        BellChairs x = ring(4, 3, 2, 1, 0, 3);
        x.beat(1);
        places("to the place 3", x, 3, 3, 3, 3, 3);
        Due.due("steps", x.count(10), 9);
    }

    private static void walkManyTimesRound() {
        BellChairs x = ring(4, 9, 9, 8, 7, 6);
        x.beat(99);
        // 891 places are 222 times round and three more, 693 are one more, 594 are two more.
        places("99 beats", x, 3, 0, 2, 0, 2);
        Due.due("steps", x.playerOf(0, 6), 891);
        for (int i = 0; i < 9; i++) {
            x.beat(99);
        }
        x.beat(9);
        // 999 beats of the stride 9 are three on, of 8 none, of 7 one, of 6 two.
        places("999 beats", x, 3, 0, 2, 0, 2);
        Due.due("steps", x.playerOf(0, 6), 8991);
        Due.due("steps in all", x.count(10), 999 * (9 + 9 + 8 + 7 + 6));
    }

    private static void walkOnOneChair() {
        BellChairs x = ring(1, 0, 1, 5, 9);
        x.beat(1);
        places("one beat", x, 0, 0, 0, 0);
        x.beat(99);
        places("100 beats", x, 0, 0, 0, 0);
        Due.due("steps all the same", x.playerOf(3, 6), 900);
        Due.due("stop", x.stop(), 0b1110);
    }

    private static void oneBeatAfterTheOther() {
        BellChairs single = ring(7, 1, 2, 3, 4, 5, 6, 7, 8);
        BellChairs atOnce = ring(7, 1, 2, 3, 4, 5, 6, 7, 8);
        for (int i = 0; i < 40; i++) {
            single.beat(1);
        }
        atOnce.beat(40);
        for (int player = 0; player < 8; player++) {
            Due.due("place", single.playerOf(player, 3), atOnce.playerOf(player, 3));
            Due.due("steps", single.playerOf(player, 6), 40 * (player + 1));
            Due.due("steps", atOnce.playerOf(player, 6), 40 * (player + 1));
        }
    }

    /** Behind one beat the places are 1, 1, 2, 2 of three; player 1 hears as told. */
    private static BellChairs freeAtTheFirstPlace(int ear) {
        BellChairs x = Due.made(new int[] {5, 6, 7}, new int[] {1, 0, 0, 2});
        x.train(1, 0, ear);
        x.start();
        x.beat(1);
        return x;
    }

    private static void aimPastTheLastPlace() {
        // Player 3 bumps at 2 and goes on to 0; player 1 comes there by way of 2, too late.
        BellChairs x = freeAtTheFirstPlace(0);
        places("ahead of the stop", x, 1, 1, 2, 2);
        Due.due("seat of 3", x.ifStopped(3, 0), 0);
        Due.due("bumps of 3", x.ifStopped(3, 1), 1);
        Due.due("tick of 3", x.ifStopped(3, 2), 2);
        Due.due("seat of 1", x.ifStopped(1, 0), Due.MISSING);
        Due.due("bumps of 1", x.ifStopped(1, 1), 3);
        Due.due("tick of 1", x.ifStopped(1, 2), 4);
        Due.due("stop", x.stop(), 0b0010);
        Due.due("sitter", x.chairOf(0, 2), 3);
        Due.due("the latest ring", x.bell(0, 2), 0);
        Due.due("its tick", x.bell(0, 1), 2);
    }

    private static void nearestPastTheLastPlace() {
        // Both aim at 0 in the second tick: player 1 from 1 by two places, player 3 from 2 by one.
        BellChairs x = freeAtTheFirstPlace(1 << 7);
        Due.due("seat of 3, who is nearer", x.ifStopped(3, 0), 0);
        Due.due("tick of 3", x.ifStopped(3, 2), 2);
        Due.due("bumps of 1, who has the lower number", x.ifStopped(1, 1), 2);
        Due.due("tick of 1", x.ifStopped(1, 2), 3);
        Due.due("stop", x.stop(), 0b0010);
    }

    private static void nearestFromTheChairBumpedInto() {
        // One from 0 knows of 1 and 2 and bumps into 3; one from 1 knows of 3 and bumps into 2:
        // in the third tick the one from 0 is at 3, and nearer to 4 than the other one at 2.
        overtaking(4, 5, 1, 1);
        overtaking(5, 4, 0, 2);
    }

    private static void overtaking(int farther, int nearer, int fartherStride, int nearerStride) {
        BellChairs x = Due.made(new int[] {0, 1, 2, 3, 4}, new int[6]);
        x.train(farther, fartherStride, 1 << 1 | 1 << 2);
        x.train(nearer, nearerStride, 1 << 3);
        x.start();
        x.beat(1);
        Due.due("place of the one", x.playerOf(farther, 3), 0);
        Due.due("place of the other", x.playerOf(nearer, 3), 1);
        Due.due("seat of the one", x.ifStopped(farther, 0), 4);
        Due.due("tick of the one", x.ifStopped(farther, 2), 3);
        Due.due("bumps of the one", x.ifStopped(farther, 1), 2);
        Due.due("the other gets out", x.stop(), 1 << nearer);
    }

    private static void lowestOfThoseAsNear() {
        // Behind one beat all but player 2 are at 1; three come to 0 in the third tick, as near.
        BellChairs x = ring(3, 1, 0, 0, 1, 0);
        x.beat(1);
        places("ahead of the stop", x, 1, 1, 2, 1, 1);
        Due.due("seat of 1", x.ifStopped(1, 0), 0);
        Due.due("tick of 1", x.ifStopped(1, 2), 3);
        Due.due("bumps of 1", x.ifStopped(1, 1), 2);
        Due.due("bumps of 3", x.ifStopped(3, 1), 3);
        Due.due("tick of 4", x.ifStopped(4, 2), 4);
        Due.due("stop", x.stop(), 0b11000);
    }

    private static void lowestOnTheSamePlace() {
        BellChairs x = ring(1, new int[12]);
        Due.due("seat of 0", x.ifStopped(0, 0), 0);
        Due.due("outs", x.stop(), 4094);
        Due.due("sitter", x.chairOf(0, 2), 0);
    }

    private static void knownChairsArePassed() {
        // Players 0 to 3 sit in the first tick, player 4 at 0 hears 1 and 2 and goes on to 4.
        BellChairs x = Due.made(new int[] {1, 2, 3, 4, 5}, new int[] {0, 0, 0, 0, 1, 0});
        x.train(4, 1, 1 << 2 | 1 << 3 | 1 << 4);
        x.start();
        x.beat(1);
        places("ahead of the stop", x, 0, 1, 2, 3, 0, 0);
        Due.due("seat of 4", x.ifStopped(4, 0), 4);
        Due.due("tick of 4", x.ifStopped(4, 2), 2);
        Due.due("bumps of 4", x.ifStopped(4, 1), 1);
        Due.due("bumps of 5", x.ifStopped(5, 1), 5);
        Due.due("tick of 5", x.ifStopped(5, 2), 6);
    }

    private static void ownPlaceComesFirst() {
        // Player 2 stands alone at 2 and sits there at once, though 0 is free, too.
        BellChairs x = ring(4, 1, 0, 0, 0, 1);
        x.beat(1);
        places("ahead of the stop", x, 1, 1, 2, 3, 1);
        Due.due("seat of 2", x.ifStopped(2, 0), 2);
        Due.due("seat of 3", x.ifStopped(3, 0), 3);
        Due.due("tick of 3", x.ifStopped(3, 2), 1);
        Due.due("seat of 1", x.ifStopped(1, 0), 0);
        Due.due("tick of 1", x.ifStopped(1, 2), 4);
    }

    private static void wornChairs() {
        // Twice used, 0 and 1 are worn more than the two that came between the rounds.
        BellChairs x = Due.made(new int[] {1, 2, 3}, new int[4]);
        x.start();
        x.stop();
        x.chair(4);
        x.player(0, 0);
        x.start();
        x.stop();
        Due.due("chairs", x.count(1), 2);
        Due.due("the first one stays", x.chairOf(0, 0), 1);
        Due.due("the one behind the worn one moves up", x.chairOf(1, 0), 4);
        Due.due("its sitter", x.chairOf(1, 2), 2);
        Due.due("end of the ring", x.chairOf(2, 0), Due.INVALID);
    }

    private static void lastOfThoseAsWorn() {
        BellChairs x = Due.made(new int[] {1, 2, 3, 4}, new int[5]);
        x.set(0, 2);
        x.start();
        x.stop();
        // All are worn alike: the last place goes, then the one that is the last then.
        Due.due("chairs", x.count(1), 2);
        Due.due("the first", x.chairOf(0, 0), 1);
        Due.due("the second", x.chairOf(1, 0), 2);
        Due.due("taken away", x.count(16), 2);
    }
}
