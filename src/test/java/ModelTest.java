/** Many runs of calls, made by a fixed rule, on the class and on the model side by side. */
public final class ModelTest {
    private static final int RUNS = 3000;
    private static final int CALLS = 512;
    private static final String[] SCRAPS = {
        "c", "p", "b", "g", "s", ";", ",", "0", "1", "5", "9", "511", "007", "x", " ",
        "c1;", "c8;", "c03;", "c9;", "p1,5;", "p3,511;", "p9,0;", "p2,300;", "g;", "s;", "g;s;",
        "b1;", "b99;", "b0;", "b7;", "p1,1;p2,2;", "g;b3;s;", "c1;p5,5;p6,6;", "c2;p1,;", "c1234;"
    };

    private static long seed;
    /** Those of the object of this run. */
    private static int calls;
    private static int[] answers;

    public static void main(String[] args) {
        answers = new int[22];
        for (int run = 0; run < RUNS; run++) {
            seed = run * 7919L + 17;
            run(run);
        }
        for (int kind = 0; kind < 22; kind++) {
            Due.due("call " + kind + " has often succeeded", answers[kind] > 1000 ? 1 : 0, 1);
        }
        Due.end();
    }

    private static int pick(int below) {
        seed = seed * 6364136223846793005L + 1442695040888963407L;
        return (int) ((seed >>> 33) % below);
    }

    /** Mostly a number from the range, now and then one beside it. */
    private static int near(int least, int most) {
        int luck = pick(40);
        if (luck == 0) {
            return least - 1;
        }
        if (luck == 1) {
            return most + 1;
        }
        return least + pick(most - least + 1);
    }

    private static void run(int run) {
        BellChairs x = new BellChairs();
        Model model = new Model();
        int chairs = 1 + pick(run % 3 == 0 ? 16 : 6);
        int players = 1 + pick(12);
        calls = 0;
        for (int i = 0; i < chairs; i++) {
            int tone = pick(9);
            compare(run, "chair", x.chair(tone), model.chair(tone));
        }
        for (int i = 0; i < players; i++) {
            int stride = pick(10);
            int ear = pick(3) == 0 ? 0 : pick(512) & pick(512);
            compare(run, "player", x.player(stride, ear), model.player(stride, ear));
        }
        int busy = 1 + pick(5);
        while (calls < CALLS) {
            if (pick(6) < busy) {
                change(run, x, model);
            } else {
                ask(run, x, model);
            }
        }
    }

    private static void change(int run, BellChairs x, Model model) {
        switch (pick(20)) {
            case 0: {
                int tone = near(0, 8);
                compare(run, 0, x.chair(tone), model.chair(tone));
                break;
            }
            case 1: {
                int stride = near(0, 9);
                int ear = near(0, 511);
                compare(run, 1, x.player(stride, ear), model.player(stride, ear));
                break;
            }
            case 2: {
                int place = near(0, Math.max(0, model.count(1) - 1));
                int tone = near(0, 8);
                compare(run, 2, x.tune(place, tone), model.tune(place, tone));
                break;
            }
            case 3: {
                int player = near(0, Math.max(0, model.count(2) - 1));
                int stride = near(0, 9);
                int ear = near(0, 511);
                compare(run, 3, x.train(player, stride, ear), model.train(player, stride, ear));
                break;
            }
            case 4: case 5: case 6: case 7:
                compare(run, 4, x.start(), model.start());
                break;
            case 8: case 9: case 10: {
                int beats = near(1, 99);
                compare(run, 5, x.beat(beats), model.beat(beats));
                break;
            }
            case 11: case 12: case 13:
                compare(run, 6, x.stop(), model.stop());
                break;
            case 14: {
                int what = near(0, 0);
                int value = near(1, 3);
                compare(run, 7, x.set(what, value), model.set(what, value));
                break;
            }
            case 15:
                compare(run, 17, x.undo(), model.undo());
                break;
            case 16: case 17: {
                write(run, x, model);
                break;
            }
            case 18:
                compare(run, 21, x.play(), model.play());
                break;
            default:
                compare(run, 19, x.clearText(), model.clearText());
                break;
        }
    }

    private static void write(int run, BellChairs x, Model model) {
        if (pick(60) == 0) {
            int odd = pick(200);
            compare(run, 18, x.type(odd), model.type(odd));
            return;
        }
        String scrap = SCRAPS[pick(SCRAPS.length)];
        for (int i = 0; i < scrap.length() && calls < CALLS; i++) {
            compare(run, 18, x.type(scrap.charAt(i)), model.type(scrap.charAt(i)));
        }
    }

    private static void ask(int run, BellChairs x, Model model) {
        int player = near(0, Math.max(0, model.count(2) - 1));
        int place = near(0, Math.max(0, model.count(1) - 1));
        switch (pick(10)) {
            case 0: {
                int what = near(0, 2);
                compare(run, 8, x.chairOf(place, what), model.chairOf(place, what));
                break;
            }
            case 1: {
                int what = near(0, 8);
                compare(run, 9, x.playerOf(player, what), model.playerOf(player, what));
                break;
            }
            case 2:
                compare(run, 10, x.hears(player, place), model.hears(player, place));
                break;
            case 3: {
                int ago = near(0, 12);
                int what = near(0, 4);
                compare(run, 11, x.bell(ago, what), model.bell(ago, what));
                break;
            }
            case 4: {
                int what = near(0, 2);
                compare(run, 12, x.ifStopped(player, what), model.ifStopped(player, what));
                break;
            }
            case 5:
                compare(run, 13, x.outs(), model.outs());
                break;
            case 6:
                compare(run, 14, x.safeIn(player), model.safeIn(player));
                break;
            case 7:
                compare(run, 15, x.mean(), model.mean());
                break;
            case 8: {
                int what = near(0, 20);
                compare(run, 16, x.count(what), model.count(what));
                break;
            }
            default: {
                int what = near(0, 2);
                compare(run, 20, x.fault(what), model.fault(what));
                break;
            }
        }
    }

    private static void compare(int run, int kind, int got, int want) {
        if (want >= 0) {
            answers[kind]++;
        }
        compare(run, "call " + kind, got, want);
    }

    private static void compare(int run, String call, int got, int want) {
        calls++;
        Due.due("run " + run + ": " + call, got, want);
    }
}
