/** The edges of promises 22 to 24: OIL by turns, EVERYWHERE, A YEAR. Each method tests the sentence over it. */
public final class EdgesOfChancesTest {
    private static final Due due = new Due();
    private static final long OUTSIDE = StuckVanes.LOST + StuckVanes.OUTSIDE;

    public static void main(String[] args) {
        soManyDrops();
        whoCanNotHasLost();
        asManyAsASquareIs();
        theLeastFirst();
        dropsWhat();
        oneToEightWays();
        noughtToSixteenHours();
        fromNowhereOn();
        notBefore();
        inTheMean();
        noMatterButAsTold();
        everywhereWhat();
        seeds();
        oneToNinetyNineActs();
        leftOver();
        whatAnHourFinds();
        eachIfThatCanBe();
        fiveToSevenAnHour();
        nobodysYear();
        tiredThatAreThere();
        yearWhat();
        nothingIsDone();
        due.end();
    }

    private static void fraction(StuckVanes x, int m, int n, long upper, long lower) {
        due.is("everywhere(" + m + ", " + n + ", 0, 0)", x.everywhere(m, n, 0, 0), upper);
        due.is("everywhere(" + m + ", " + n + ", 0, 1)", x.everywhere(m, n, 0, 1), lower);
    }

    /** "of n drops (0 to 200)"; drops: "OUTSIDE" */
    private static void soManyDrops() {
        StuckVanes x = new StuckVanes();
        due.is("the most", x.drops(200, 0), 1);
        due.is("the least", x.drops(0, 0), 0);
        for (int n : new int[] {-1, 201, Integer.MIN_VALUE, Integer.MAX_VALUE}) {
            due.is("drops(" + n + ", 0)", x.drops(n, 0), StuckVanes.OUTSIDE);
            due.is("drops(" + n + ", 1)", x.drops(n, 1), StuckVanes.OUTSIDE);
        }
    }

    /** "who can not has lost"; drops: "NONE" */
    private static void whoCanNotHasLost() {
        StuckVanes x = new StuckVanes();
        for (int lost : new int[] {0, 2, 5, 7, 10}) {
            due.is("whether of " + lost, x.drops(lost, 0), 0);
            due.is("how many of " + lost, x.drops(lost, 1), StuckVanes.NONE);
        }
        due.is("whether of 1", x.drops(1, 0), 1);
        due.is("how many of 1", x.drops(1, 1), 1);
    }

    /** "take as many as a square is (1, 4, 9, and so on)", up to all that are there */
    private static void asManyAsASquareIs() {
        StuckVanes x = new StuckVanes();
        due.is("all 4", x.drops(4, 1), 4);
        due.is("4 of 9, for 5 is lost", x.drops(9, 1), 4);
        due.is("9 of 29", x.drops(29, 1), 9);
        due.is("16 of 28", x.drops(28, 1), 16);
        due.is("all 49", x.drops(49, 1), 49);
        due.is("two can not be taken", x.drops(2, 0), 0);
        due.is("no square leaves of 34 what is lost", x.drops(34, 0), 0);
    }

    /** "how many he takes first for it, the least" */
    private static void theLeastFirst() {
        StuckVanes x = new StuckVanes();
        due.is("of 11: 1, though 4 and 9 win", x.drops(11, 1), 1);
        due.is("of 14: 4, though 9 wins", x.drops(14, 1), 4);
    }

    /** drops: "whether (what = 0), how many (1 ..). OUTSIDE" */
    private static void dropsWhat() {
        StuckVanes x = new StuckVanes();
        due.is("whether", x.drops(4, 0), 1);
        due.is("how many", x.drops(4, 1), 4);
        for (int what : new int[] {-1, 2, Integer.MIN_VALUE, Integer.MAX_VALUE}) {
            due.is("drops(4, " + what + ")", x.drops(4, what), StuckVanes.OUTSIDE);
        }
    }

    /** "one of m ways (1 to 8)"; everywhere: "OUTSIDE" */
    private static void oneToEightWays() {
        StuckVanes x = new StuckVanes();
        fraction(x, 1, 1, 1, 1);
        fraction(x, 8, 8, 315, 131072);
        for (int m : new int[] {0, 9, -1, Integer.MIN_VALUE, Integer.MAX_VALUE}) {
            due.is("everywhere(" + m + ", 8, 0, 0)", x.everywhere(m, 8, 0, 0), OUTSIDE);
            due.is("everywhere(" + m + ", 8, 1, 1)", x.everywhere(m, 8, 1, 1), OUTSIDE);
        }
    }

    /** "behind n hours (0 to 16)"; everywhere: "OUTSIDE" */
    private static void noughtToSixteenHours() {
        StuckVanes x = new StuckVanes();
        fraction(x, 2, 0, 0, 1);
        fraction(x, 2, 16, 32767, 32768);
        // 3 to the 16th, less 3 times 2 to the 16th, and 3, of 3 to the 16th; both by 9.
        fraction(x, 3, 16, (43046721 - 3 * 65536 + 3) / 9, 43046721 / 9);
        for (int n : new int[] {-1, 17, Integer.MIN_VALUE, Integer.MAX_VALUE}) {
            due.is("everywhere(2, " + n + ", 0, 0)", x.everywhere(2, n, 0, 0), OUTSIDE);
        }
    }

    /** "from nowhere on": where it POINTS at first counts for nothing */
    private static void fromNowhereOn() {
        StuckVanes x = new StuckVanes();
        fraction(x, 1, 0, 0, 1);
        fraction(x, 1, 1, 1, 1);
        due.is("one way, the mean", x.everywhere(1, 0, 1, 0), 1);
        due.is("one way, the mean", x.everywhere(1, 0, 1, 1), 1);
    }

    /** "that it has been everywhere behind n hours": not before there were as many as ways */
    private static void notBefore() {
        StuckVanes x = new StuckVanes();
        long factorial = 1;
        long all = 1;
        for (int m = 1; m <= 8; m++) {
            factorial *= m;
            all = 1;
            for (int i = 0; i < m; i++) {
                all *= m;
            }
            fraction(x, m, m - 1, 0, 1);
            due.is("just then, " + m, x.everywhere(m, m, 0, 0) * all, x.everywhere(m, m, 0, 1) * factorial);
        }
    }

    /** "in the mean behind how many hours it first has" */
    private static void inTheMean() {
        StuckVanes x = new StuckVanes();
        long[][] means = {{1, 1}, {3, 1}, {11, 2}, {25, 3}, {137, 12}, {147, 10}, {363, 20}, {761, 35}};
        for (int m = 1; m <= 8; m++) {
            due.is("upper of " + m, x.everywhere(m, 5, 1, 0), means[m - 1][0]);
            due.is("lower of " + m, x.everywhere(m, 5, 1, 1), means[m - 1][1]);
        }
    }

    /** everywhere: "(n is no matter, but as told)" */
    private static void noMatterButAsTold() {
        StuckVanes x = new StuckVanes();
        for (int n = 0; n <= 16; n++) {
            due.is("everywhere(3, " + n + ", 1, 0)", x.everywhere(3, n, 1, 0), 11);
            due.is("everywhere(3, " + n + ", 1, 1)", x.everywhere(3, n, 1, 1), 2);
        }
        due.is("below", x.everywhere(3, -1, 1, 0), OUTSIDE);
        due.is("above", x.everywhere(3, 17, 1, 1), OUTSIDE);
    }

    /** everywhere: "behind n hours (what = 0), the mean (1). OUTSIDE" */
    private static void everywhereWhat() {
        StuckVanes x = new StuckVanes();
        due.is("behind two hours", x.everywhere(2, 2, 0, 1), 2);
        due.is("the mean", x.everywhere(2, 2, 1, 0), 3);
        for (int what : new int[] {-1, 2, Integer.MIN_VALUE, Integer.MAX_VALUE}) {
            due.is("everywhere(2, 2, " + what + ", 0)", x.everywhere(2, 2, what, 0), OUTSIDE);
        }
    }

    /** "by a seed (0 to 9999)"; year: "OUTSIDE" */
    private static void seeds() {
        StuckVanes x = new StuckVanes();
        due.is("the least", x.year(0, 1, 2), 5);
        due.is("the most", x.year(9999, 1, 2), 5);
        for (int seed : new int[] {-1, 10000, Integer.MIN_VALUE, Integer.MAX_VALUE}) {
            due.is("year(" + seed + ", 1, 2)", x.year(seed, 1, 2), StuckVanes.OUTSIDE);
        }
    }

    /** "of m ACTS (1 to 99)"; year: "OUTSIDE" */
    private static void oneToNinetyNineActs() {
        StuckVanes x = new StuckVanes();
        due.is("the least", x.year(0, 1, 2), 5);
        due.is("the most", x.year(0, 99, 2), 5);
        for (int m : new int[] {0, 100, -1, Integer.MIN_VALUE, Integer.MAX_VALUE}) {
            due.is("year(0, " + m + ", 2)", x.year(0, m, 2), StuckVanes.OUTSIDE);
        }
        // Seed 2 oils A as its act 0; the hundredth draw of a year would be a further one.
        x.parish(0, 0, false, 0);
        due.is("one act", x.year(2, 1, 2), 4);
    }

    /** "x becomes (75 x and 74) left over by 65537": where 65537 goes in for the first time, and more than once */
    private static void leftOver() {
        StuckVanes x = new StuckVanes();
        // Seed 2622: 196724 leaves 113, of B (1), by 7 is 16, by 8 leaves 0: oil.
        x.parish(1, 0, false, 0);
        due.is("B is oiled", x.year(2622, 1, 2), 4);
    }

    /** "1 it is stuck, 2 by hand to z .., 3 the WIND is from z ..": told by the hour that is drawn next */
    private static void whatAnHourFinds() {
        StuckVanes x = new StuckVanes();
        // Seed 876: 237 is G (6), act 1; then 17849, an hour.
        x.parish(6, 4, true, 3);
        due.is("G is stuck, and rests", x.year(876, 2, 1), 2);
        // Seed 938: 4887 is B (1), act 2, z 87 is by hand to 7; then 38914, an hour.
        StuckVanes y = new StuckVanes();
        y.parish(1, 3, true, 3);
        y.weather(7, 5);
        due.is("B points to the wind, and rests", y.year(938, 2, 1), 2);
        y.weather(0, 5);
        due.is("B does not", y.year(938, 2, 1), 4);
        // Seed 900: 2037 is act 3, z 36 is the wind from 4; then 21775, an hour.
        StuckVanes z = new StuckVanes();
        z.parish(3, 4, true, 3);
        due.is("the wind is from where D points", z.year(900, 2, 1), 2);
    }

    /** "each if that can be" */
    private static void eachIfThatCanBe() {
        StuckVanes x = new StuckVanes();
        due.is("A is not there: no oil", x.year(2, 1, 2), 5);
        x.parish(0, 0, true, 0);
        due.is("A is free: no oil", x.year(2, 1, 2), 5);
        x.parish(0, 0, false, 0);
        due.is("A is stuck: oil", x.year(2, 1, 2), 4);
        x.weather(0, 0);
        due.is("there is none", x.year(2, 1, 2), 0);
        StuckVanes nobody = new StuckVanes();
        nobody.creed(255);
        due.is("nobody votes", nobody.year(30, 1, 0), 8);
        nobody.parish(0, 4, false, 0);
        due.is("somebody votes", nobody.year(30, 1, 0), 7);
    }

    /** "5 to 7 an hour", "if that can be": not at hour 99 */
    private static void fiveToSevenAnHour() {
        StuckVanes x = new StuckVanes();
        x.parish(0, 0, false, 9);
        for (int seed : new int[] {51, 16, 37}) {
            due.is("an hour by seed " + seed, x.year(seed, 1, 1), 8);
        }
        String fifty = "..................................................";
        due.doneIs(x, fifty, 50);
        due.doneIs(x, fifty.substring(1), 49);
        x.parish(0, 0, false, 9);
        for (int seed : new int[] {51, 16, 37}) {
            due.is("no hour by seed " + seed, x.year(seed, 1, 1), 9);
        }
    }

    /** A YEAR of nobody: votes and what is done to a PARISH can not be, winds and hours can */
    private static void nobodysYear() {
        StuckVanes x = new StuckVanes();
        x.creed(5);
        due.is("things", x.year(77, 99, 0), 2);
        due.is("tired", x.year(77, 99, 1), 0);
        due.is("oil", x.year(77, 99, 2), 5);
    }

    /** "how TIRED all that are there are, added" */
    private static void tiredThatAreThere() {
        StuckVanes x = new StuckVanes();
        for (int parish = 0; parish < 7; parish++) {
            x.parish(parish, 0, false, 9);
            // Seed 0 draws by hand for E, which is stuck.
            due.is("so many", x.year(0, 1, 1), 9 * (parish + 1));
        }
    }

    /** year: "THINGS (what = 0), TIRED (1), OIL (2). OUTSIDE" */
    private static void yearWhat() {
        StuckVanes x = new StuckVanes();
        x.parish(4, 0, false, 3);
        x.creed(255);
        x.weather(0, 6);
        due.is("things", x.year(0, 1, 0), 8);
        due.is("tired", x.year(0, 1, 1), 3);
        due.is("oil", x.year(0, 1, 2), 6);
        for (int what : new int[] {-1, 3, Integer.MIN_VALUE, Integer.MAX_VALUE}) {
            due.is("year(0, 1, " + what + ")", x.year(0, 1, what), StuckVanes.OUTSIDE);
        }
    }

    /** "from all as it is"; "Nothing is DONE in fact." */
    private static void nothingIsDone() {
        StuckVanes x = new StuckVanes();
        x.parish(0, 4, true, 3);
        x.parish(3, 2, false, 8);
        due.pad(x, "w1.");
        String before = State.of(x);
        int first = x.year(4321, 99, 1);
        due.is("the same again", x.year(4321, 99, 1), first);
        due.is("all as it was", State.of(x).equals(before) ? 1 : 0, 1);
        due.is("the pad, too", x.done(), 2);
    }
}
