/** Promises 22 to 24: OIL by turns, EVERYWHERE, A YEAR. */
public final class ChancesTest {
    private static final Due due = new Due();
    private static final long OUTSIDE = StuckVanes.LOST + StuckVanes.OUTSIDE;

    public static void main(String[] args) {
        drops();
        everywhereByHand();
        everywhereOneByOne();
        everywhereOutside();
        yearsByHand();
        yearsByWeeks();
        due.end();
    }

    private static void drops() {
        StuckVanes x = new StuckVanes();
        boolean[] wins = new boolean[201];
        int[] asked = {200, 7, 44};
        for (int n : asked) {
            x.drops(n, 1);
        }
        for (int n = 0; n <= 200; n++) {
            int take = StuckVanes.NONE;
            for (int side = 14; side >= 1; side--) {
                if (side * side <= n && !wins[n - side * side]) {
                    take = side * side;
                }
            }
            wins[n] = take > 0;
            due.is("drops(" + n + ", 0)", x.drops(n, 0), wins[n] ? 1 : 0);
            due.is("drops(" + n + ", 1)", x.drops(n, 1), take);
        }
        due.is("34 is lost", x.drops(34, 0), 0);
        due.is("8 by 1", x.drops(8, 1), 1);
        due.is("11 by 1", x.drops(11, 1), 1);
        due.is("14 by 4", x.drops(14, 1), 4);
        due.is("n below", x.drops(-1, 0), StuckVanes.OUTSIDE);
        due.is("n above", x.drops(201, 1), StuckVanes.OUTSIDE);
        due.is("what below", x.drops(1, -1), StuckVanes.OUTSIDE);
        due.is("what above", x.drops(1, 2), StuckVanes.OUTSIDE);
    }

    private static void fraction(int m, int n, int what, long upper, long lower) {
        StuckVanes x = new StuckVanes();
        String call = "everywhere(" + m + ", " + n + ", " + what + ", ";
        due.is(call + "0)", x.everywhere(m, n, what, 0), upper);
        due.is(call + "1)", x.everywhere(m, n, what, 1), lower);
    }

    private static void everywhereByHand() {
        fraction(1, 0, 0, 0, 1);
        fraction(1, 1, 0, 1, 1);
        fraction(1, 16, 0, 1, 1);
        fraction(2, 0, 0, 0, 1);
        fraction(2, 1, 0, 0, 1);
        fraction(2, 4, 0, 7, 8);
        fraction(3, 4, 0, 4, 9);
        fraction(8, 7, 0, 0, 1);
        fraction(8, 8, 0, 315, 131072);
        // 2 to the 16th, less two, of 2 to the 16th.
        fraction(2, 16, 0, 32767, 32768);
        long[][] means = {{1, 1}, {3, 1}, {11, 2}, {25, 3}, {137, 12}, {147, 10}, {363, 20}, {761, 35}};
        for (int m = 1; m <= 8; m++) {
            fraction(m, 0, 1, means[m - 1][0], means[m - 1][1]);
            fraction(m, 16, 1, means[m - 1][0], means[m - 1][1]);
        }
    }

    /** The upper and the lower number by the ways that are left out. */
    private static void everywhereOneByOne() {
        for (int m = 1; m <= 8; m++) {
            for (int n = 1; n <= 16; n++) {
                long upper = 0;
                long choose = 1;
                for (int out = 0; out <= m; out++) {
                    upper += (out % 2 == 0 ? 1 : -1) * choose * power(m - out, n);
                    choose = choose * (m - out) / (out + 1);
                }
                long lower = power(m, n);
                long a = upper;
                long b = lower;
                while (b != 0) {
                    long rest = a % b;
                    a = b;
                    b = rest;
                }
                fraction(m, n, 0, upper / a, lower / a);
            }
        }
    }

    private static long power(long base, int n) {
        long power = 1;
        for (int i = 0; i < n; i++) {
            power *= base;
        }
        return power;
    }

    private static void everywhereOutside() {
        StuckVanes x = new StuckVanes();
        int[][] calls = {{0, 0, 0, 0}, {9, 0, 0, 0}, {-1, 0, 0, 0}, {1, -1, 0, 0}, {1, 17, 0, 0}, {1, 17, 1, 0},
            {1, -1, 1, 1}, {1, 0, -1, 0}, {1, 0, 2, 0}, {1, 0, 0, -1}, {1, 0, 0, 2}, {1, 0, 1, 2},
            {Integer.MIN_VALUE, 0, 0, 0}, {Integer.MAX_VALUE, Integer.MAX_VALUE, 1, 1}};
        for (int[] c : calls) {
            due.is("everywhere outside", x.everywhere(c[0], c[1], c[2], c[3]), OUTSIDE);
        }
    }

    private static void yearsByHand() {
        StuckVanes x = new StuckVanes();
        x.parish(4, 0, false, 5);
        x.parish(2, 0, false, 4);
        // Seed 0: x is 74, PARISH 4, act 10 left over by 8 is 2, by hand, but it is stuck.
        due.is("nothing can be", x.year(0, 1, 0), 0);
        due.is("nothing can be", x.year(0, 1, 1), 9);
        due.is("nothing can be", x.year(0, 1, 2), 5);
        // Seed 2: x is 224, PARISH 0, act 32 left over by 8 is 0, oil.
        due.is("not there", x.year(2, 1, 2), 5);
        x.parish(0, 0, true, 0);
        due.is("free already", x.year(2, 1, 2), 5);
        x.parish(0, 0, false, 0);
        due.is("oil", x.year(2, 1, 2), 4);
        x.weather(0, 0);
        due.is("no oil", x.year(2, 1, 2), 0);
        // Seed 30: x is 2324, act 332 left over by 8 is 4, z 41 left over by 8 is 1, a vote on 1.
        due.is("a vote", x.year(30, 1, 0), 1);
        x.creed(255);
        x.parish(4, 4, false, 5);
        x.parish(2, 4, false, 4);
        due.is("a vote against", x.year(30, 1, 0), 7);
        // Seeds 51, 16 and 37: acts 5, 6 and 7, an hour.
        due.is("an hour", x.year(51, 1, 1), 7);
        due.is("an hour", x.year(16, 1, 1), 7);
        due.is("an hour", x.year(37, 1, 1), 7);
        x.parish(2, 4, true, 4);
        due.is("an hour", x.year(37, 1, 1), 9);
        due.is("nothing is done", x.told(5), 0);
        due.doneIs(x, ".................................................", 49);
        due.doneIs(x, "..................................................", 50);
        x.parish(2, 4, true, 4);
        due.is("the last hour", x.year(37, 1, 1), 4);
        yearsOutside(x);
    }

    private static void yearsOutside(StuckVanes x) {
        due.is("seed below", x.year(-1, 1, 0), StuckVanes.OUTSIDE);
        due.is("seed above", x.year(10000, 1, 0), StuckVanes.OUTSIDE);
        due.is("m below", x.year(0, 0, 0), StuckVanes.OUTSIDE);
        due.is("m above", x.year(0, 100, 0), StuckVanes.OUTSIDE);
        due.is("what below", x.year(0, 1, -1), StuckVanes.OUTSIDE);
        due.is("what above", x.year(0, 1, 3), StuckVanes.OUTSIDE);
        due.is("the most", x.year(9999, 99, 2) >= 0 ? 1 : 0, 1);
    }

    /** Years, against their draws told as WEEKS of one ACT each to another object. */
    private static void yearsByWeeks() {
        int[] seeds = {0, 1, 77, 500, 1234, 4321, 9999};
        for (int seed : seeds) {
            for (int m = 1; m <= 99; m += 14) {
                StuckVanes x = settled(seed);
                StuckVanes y = settled(seed);
                String before = State.of(x);
                byWeeks(y, seed, m);
                int tired = 0;
                for (int parish = 0; parish < 7; parish++) {
                    tired += Math.max(0, y.told(30 + parish));
                }
                due.is("year " + seed + ", " + m + ", 0", x.year(seed, m, 0), Integer.bitCount(y.told(2)));
                due.is("year " + seed + ", " + m + ", 1", x.year(seed, m, 1), tired);
                due.is("year " + seed + ", " + m + ", 2", x.year(seed, m, 2), y.told(4));
                due.is("nothing is done in fact", before.equals(State.of(x)) ? 1 : 0, 1);
            }
        }
    }

    private static StuckVanes settled(int seed) {
        StuckVanes x = new StuckVanes();
        x.parish(0, seed % 8, true, 3);
        x.parish(2, 5, true, 9);
        x.parish(3, 1, false, 0);
        x.parish(6, 6, seed % 2 == 0, 2);
        x.weather(seed / 8 % 8, 9);
        x.creed(seed % 256);
        due.doneIs(x, "..........................................................", 58);
        due.doneIs(x, "....................", 20);
        return x;
    }

    private static void byWeeks(StuckVanes y, int seed, int m) {
        int x = seed;
        for (int i = 0; i < m; i++) {
            x = (75 * x + 74) % 65537;
            char parish = (char) ('A' + x % 7);
            int number = x / 56 % 8;
            String[] acts = {parish + "*", parish + "#", "" + parish + number, "w" + number, "v" + number, ".", ".", "."};
            y.wipe();
            String act = acts[x / 7 % 8];
            y.say(act.charAt(0));
            if (act.length() > 1) {
                y.say(act.charAt(1));
            }
            y.done();
        }
    }
}
