/** Runs of calls by draws, each answer against what the Model answers: promises 1 to 27 together. */
public final class ModelTest {
    private static final Due due = new Due();
    private static final String[] ACTS = {"A*", "B*", "C*", "D*", "A#", "B#", "E#", "A0", "A5", "B3", "B7", "C1", "D4", "E2",
        "F6", "G7", "w0", "w1", "w2", "w3", "w4", "w5", "w6", "w7", "v0", "v1", "v2", "v3", "v4", "v5", "v6", "v7", ".", "..", "..."};
    private static long drawn = 20261120L;

    public static void main(String[] args) {
        for (int run = 0; run < 400; run++) {
            StuckVanes x = new StuckVanes();
            Model model = new Model();
            for (int round = 0; round < 60; round++) {
                oneCall(x, model, run);
                if (round % 4 == 0) {
                    someWeeks(x, model, run);
                }
            }
            tellAll(x, model, run + " at the end");
        }
        for (int run = 400; run < 500; run++) {
            lateRun(run);
        }
        due.end();
    }

    /** Full pads, the last hours and full sights, to which the other runs seldom come. */
    private static void lateRun(int run) {
        StuckVanes x = new StuckVanes();
        Model model = new Model();
        for (int parish = 0; parish < 7; parish += draw(1, 3)) {
            int way = draw(0, 7);
            boolean free = coin();
            due.is(run + " parish " + parish, x.parish(parish, way, free, 0), model.parish(parish, way, free, 0));
        }
        fullPad(x, model, run);
        for (int hour = draw(36, 40); hour > 0; hour--) {
            due.is(run + " say .", x.say('.'), model.say('.'));
        }
        due.is(run + " done at hour 99 or so", x.done(), model.done());
        for (int round = 0; round < 8; round++) {
            someWeeks(x, model, run);
            oneCall(x, model, run);
        }
        int points = draw(0, 7);
        int reach = draw(0, 3);
        for (int sight = 0; sight < 10; sight++) {
            oneSight(x, model, run + " at " + points + ", " + reach, points, reach);
        }
        tellAll(x, model, run + " at the end");
    }

    /** As many hours as there is room for, and more signs than that. */
    private static void fullPad(StuckVanes x, Model model, int run) {
        due.is(run + " wipe", x.wipe(), model.wipe());
        char last = coin() ? '.' : 'w';
        for (int place = 0; place < 62; place++) {
            char sign = place < 59 ? '.' : last;
            due.is(run + " say " + sign + " at " + place, x.say(sign), model.say(sign));
        }
        due.is(run + " fault of a full pad", x.fault(), model.fault());
        due.is(run + " hours of a full pad", x.then(3), model.then(3));
        due.is(run + " done of a full pad", x.done(), model.done());
        due.is(run + " wipe of a full pad", x.wipe(), model.wipe());
    }

    /** Mostly a SIGHT that fits a VANE which POINTS there and a PARISH that AGREES so far. */
    private static void oneSight(StuckVanes x, Model model, String run, int points, int reach) {
        int thing = draw(0, 7);
        int eastwards = (thing - points + 8) % 8;
        boolean agreed = Math.min(eastwards, 8 - eastwards) <= reach != (draw(0, 9) == 0);
        due.is(run + " seen " + thing + ", " + agreed, x.seen(thing, agreed), model.seen(thing, agreed));
        due.is(run + " ask(0)", x.ask(0), model.ask(0));
        due.is(run + " ask(1)", x.ask(1), model.ask(1));
        for (int i = -1; i < 32; i += draw(1, 16)) {
            due.is(run + " stuck(" + i + ")", x.stuck(i), model.stuck(i));
        }
    }

    private static int draw(int least, int most) {
        drawn = drawn * 6364136223846793005L + 1442695040888963407L;
        return least + (int) ((drawn >>> 33) % (most - least + 1));
    }

    /** Mostly from least to most, now and then beside it, seldom far off. */
    private static int near(int least, int most) {
        int kind = draw(0, 59);
        if (kind == 0) {
            return draw(0, 1) == 0 ? Integer.MIN_VALUE : Integer.MAX_VALUE;
        }
        return kind < 3 ? least - 1 : kind < 5 ? most + 1 : draw(least, most);
    }

    private static boolean coin() {
        return draw(0, 1) == 0;
    }

    /** A few ACTS on the PAD, most of them such as can be; then all that is asked of them. */
    private static void someWeeks(StuckVanes x, Model model, int run) {
        if (draw(0, 3) > 0) {
            due.is(run + " wipe", x.wipe(), model.wipe());
        }
        int most = draw(0, 4);
        for (int i = 0; i < most; i++) {
            String act = ACTS[draw(0, ACTS.length - 1)];
            for (char sign : act.toCharArray()) {
                due.is(run + " say " + sign, x.say(sign), model.say(sign));
            }
        }
        if (draw(0, 19) == 0) {
            int sign = near(33, 126);
            due.is(run + " say(" + sign + ")", x.say(sign), model.say(sign));
        }
        due.is(run + " fault", x.fault(), model.fault());
        due.is(run + " judge(0)", x.judge(0), model.judge(0));
        due.is(run + " judge(1)", x.judge(1), model.judge(1));
        int what = near(0, 6);
        due.is(run + " then(" + what + ")", x.then(what), model.then(what));
        if (draw(0, 2) > 0) {
            due.is(run + " done", x.done(), model.done());
        }
    }

    private static void oneCall(StuckVanes x, Model model, int run) {
        int kind = draw(0, 20);
        int a = near(0, 7);
        int b = near(0, 7);
        boolean is = coin();
        String call = run + " call " + kind + " of " + a + ", " + b + ", " + is;
        switch (kind) {
            case 0:
            case 1:
                int parish = near(0, 6);
                int tired = near(0, 9);
                due.is(call + ", parish " + parish + ", " + tired, x.parish(parish, b, is, tired), model.parish(parish, b, is, tired));
                break;
            case 2:
            case 3:
                boolean more = draw(0, 3) > 0;
                due.is(call + ", neighbours", x.neighbours(a, b, more), model.neighbours(a, b, more));
                break;
            case 4:
                int oil = near(0, 9);
                due.is(call + ", weather " + oil, x.weather(a, oil), model.weather(a, oil));
                break;
            case 5:
                int things = near(0, 255);
                due.is(call + ", creed " + things, x.creed(things), model.creed(things));
                break;
            case 6:
                due.is(call + ", behind", x.behind(a, b % 3), model.behind(a, b % 3));
                break;
            case 7:
                due.is(call + ", agrees", x.agrees(a), model.agrees(a));
                break;
            case 8:
            case 9:
                due.is(call + ", soon", x.soon(a, b), model.soon(a, b));
                break;
            case 10:
                int n = near(2, 8);
                int row = row(n);
                due.is(call + ", agenda " + row + ", " + n, x.agenda(row, n), model.agenda(row, n));
                break;
            default:
                laterCall(x, model, kind, call, new int[] {a, b, is ? 1 : 0});
                break;
        }
    }

    private static void laterCall(StuckVanes x, Model model, int kind, String call, int[] drawnNumbers) {
        int a = drawnNumbers[0];
        boolean is = drawnNumbers[2] == 1;
        int what = near(0, 1);
        int n = near(1, 8);
        int i = draw(0, 3) == 0 ? -1 : near(-2, 32);
        int drops = near(0, 200);
        int hours = near(0, 16);
        int part = near(0, 1);
        int seed = near(0, 9999);
        int acts = near(1, 99);
        String all = call + "; " + what + ", " + n + ", " + i + ", " + drops + ", " + hours + ", " + part + ", " + seed + ", " + acts;
        switch (kind) {
            case 11: due.is(all, x.can(a, what), model.can(a, what)); break;
            case 12: due.is(all, x.ways(n, what), model.ways(n, what)); break;
            case 13: due.is(all, x.seen(a, is), model.seen(a, is)); break;
            case 14: due.is(all, draw(0, 4) == 0 ? x.forget() - model.forget() : 0, 0); break;
            case 15: due.is(all, x.stuck(i), model.stuck(i)); break;
            case 16: due.is(all, x.ask(what), model.ask(what)); break;
            case 17: due.is(all, x.drops(drops, what), model.drops(drops, what)); break;
            case 18: due.is(all, x.everywhere(n, hours, what, part), model.everywhere(n, hours, what, part)); break;
            case 19: due.is(all, x.year(seed, acts, n % 3), model.year(seed, acts, n % 3)); break;
            default:
                due.is(all + ", image", is ? x.image(what) : x.restore(what), is ? model.image(what) : model.restore(what));
                tellAll(x, model, all);
                break;
        }
    }

    private static void tellAll(StuckVanes x, Model model, String call) {
        for (int what = 0; what < 50; what += draw(1, 3)) {
            due.is(call + ", told(" + what + ")", x.told(what), model.told(what));
        }
    }

    /** Mostly n THINGS, each once; now and then one of them changed. */
    private static int row(int n) {
        int[] things = {0, 1, 2, 3, 4, 5, 6, 7};
        int row = 0;
        for (int i = 0; i < Math.min(n, 8); i++) {
            int j = draw(i, 7);
            int thing = things[j];
            things[j] = things[i];
            row = 10 * row + thing;
        }
        return draw(0, 9) == 0 ? row + draw(-9, 9) : row;
    }
}
