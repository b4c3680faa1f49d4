/**
 * The edges that part 1 of the document's Terms and promises 1 to 5 name. Each method tests the sentence that
 * stands over it.
 */
public final class EdgesOfParishesTest {
    private static final Due due = new Due();

    public static void main(String[] args) {
        noneAtFirst();
        parishesAToG();
        waysOfVanes();
        freeOrStuck();
        tiredBy();
        anew();
        howManyAre();
        notNeighboursAtFirst();
        thereOrNot();
        twoByTwo();
        bothAlsoOne();
        noneHeldAtFirst();
        bitsOfThings();
        windAtFirst();
        oilAtFirst();
        windAndOilAsTheyWere();
        hourAtFirst();
        due.end();
    }

    /** "PARISHES 0 to 6 .., none of which are there at first"; "A new object: No PARISHES." */
    private static void noneAtFirst() {
        StuckVanes x = new StuckVanes();
        due.is("parishes", x.told(1), 0);
        for (int parish = 0; parish < 7; parish++) {
            due.is("behind(" + parish + ", 0)", x.behind(parish, 0), StuckVanes.UNKNOWN);
            due.is("points", x.told(20 + parish), StuckVanes.OUTSIDE);
            due.is("tired", x.told(30 + parish), StuckVanes.OUTSIDE);
            due.is("free", x.told(40 + parish), StuckVanes.OUTSIDE);
        }
        x.parish(0, 0, true, 0);
        due.is("another new object", new StuckVanes().told(1), 0);
    }

    /** "PARISHES 0 to 6 (A to G)"; parish: "UNKNOWN". */
    private static void parishesAToG() {
        StuckVanes x = new StuckVanes();
        due.is("the last", x.parish(6, 0, false, 0), 1);
        due.is("the first", x.parish(0, 0, false, 0), 2);
        for (int parish : new int[] {-1, 7, 8, 256, Integer.MIN_VALUE, Integer.MAX_VALUE}) {
            due.is("parish(" + parish + ", ..)", x.parish(parish, 0, true, 0), StuckVanes.UNKNOWN);
        }
        due.is("bits", x.told(1), 65);
        due.judged(x, "A*G*", StuckVanes.NONE, StuckVanes.NONE);
        due.judged(x, "A*B*", 1, 1);
    }

    /** "a VANE that POINTS 0 to 7"; parish: "OUTSIDE". */
    private static void waysOfVanes() {
        StuckVanes x = new StuckVanes();
        for (int way = 0; way < 8; way++) {
            due.is("way", x.parish(2, way, false, 0), 1);
            due.is("points", x.told(22), way);
        }
        for (int way : new int[] {-1, 8, 9, Integer.MIN_VALUE, Integer.MAX_VALUE}) {
            due.is("parish(2, " + way + ", ..)", x.parish(2, way, false, 0), StuckVanes.OUTSIDE);
        }
        due.is("points as before", x.told(22), 7);
    }

    /** "is FREE or stuck" */
    private static void freeOrStuck() {
        StuckVanes x = new StuckVanes();
        x.parish(0, 0, true, 0);
        x.parish(6, 0, false, 0);
        due.is("free", x.told(40), 1);
        due.is("stuck", x.told(46), 0);
        x.parish(0, 0, false, 0);
        x.parish(6, 0, true, 0);
        due.is("stuck", x.told(40), 0);
        due.is("free", x.told(46), 1);
    }

    /** "is TIRED by 0 to 9"; parish: "OUTSIDE". */
    private static void tiredBy() {
        StuckVanes x = new StuckVanes();
        for (int tired = 0; tired < 10; tired++) {
            due.is("tired by " + tired, x.parish(5, 0, false, tired), 1);
            due.is("tired", x.told(35), tired);
        }
        for (int tired : new int[] {-1, 10, Integer.MIN_VALUE, Integer.MAX_VALUE}) {
            due.is("parish(5, .., " + tired + ")", x.parish(5, 0, false, tired), StuckVanes.OUTSIDE);
        }
        due.is("tired as before", x.told(35), 9);
    }

    /** "A PARISH is there (or anew)" */
    private static void anew() {
        StuckVanes x = new StuckVanes();
        x.neighbours(3, 4, true);
        due.is("there", x.parish(3, 7, true, 9), 1);
        due.is("anew", x.parish(3, 0, false, 0), 1);
        due.is("points", x.told(23), 0);
        due.is("tired", x.told(33), 0);
        due.is("stuck", x.told(43), 0);
        due.is("neighbours as before", x.told(13), 16);
    }

    /** "A PARISH is there ..: how many are." */
    private static void howManyAre() {
        StuckVanes x = new StuckVanes();
        for (int parish = 6; parish >= 0; parish--) {
            due.is("how many", x.parish(parish, 0, true, 0), 7 - parish);
        }
        due.is("still all", x.parish(6, 1, true, 0), 7);
    }

    /** "Two are NEIGHBOURS, or not (not, at first)." */
    private static void notNeighboursAtFirst() {
        StuckVanes x = new StuckVanes();
        for (int parish = 0; parish < 7; parish++) {
            due.is("told(1" + parish + ")", x.told(10 + parish), 0);
            x.parish(parish, 0, true, 0);
            due.is("there, told(1" + parish + ")", x.told(10 + parish), 0);
        }
        due.is("none to part", x.neighbours(0, 6, false), 0);
    }

    /** "Two are NEIGHBOURS .., be they there or not, or are not" */
    private static void thereOrNot() {
        StuckVanes x = new StuckVanes();
        due.is("neither is there", x.neighbours(1, 2, true), 1);
        x.parish(3, 0, true, 0);
        due.is("one is there", x.neighbours(2, 3, true), 2);
        x.parish(2, 0, true, 0);
        due.is("both are there", x.told(12), 2 + 8);
        due.is("no more", x.neighbours(3, 2, false), 1);
        due.is("no more, not there", x.neighbours(2, 1, false), 0);
        due.is("none", x.told(12), 0);
    }

    /** "how many two by two" */
    private static void twoByTwo() {
        StuckVanes x = new StuckVanes();
        int many = 0;
        for (int a = 0; a < 7; a++) {
            for (int b = a + 1; b < 7; b++) {
                many++;
                due.is("one more", x.neighbours(b, a, true), many);
            }
        }
        due.is("all", many, 21);
        due.is("already", x.neighbours(0, 6, true), 21);
        due.is("one less", x.neighbours(0, 6, false), 20);
        due.is("not any more", x.neighbours(6, 0, false), 20);
    }

    /** "UNKNOWN: both, also one." */
    private static void bothAlsoOne() {
        StuckVanes x = new StuckVanes();
        for (int none : new int[] {-1, 7, Integer.MIN_VALUE, Integer.MAX_VALUE}) {
            due.is("both", x.neighbours(none, none, true), StuckVanes.UNKNOWN);
            due.is("the first", x.neighbours(none, 0, true), StuckVanes.UNKNOWN);
            due.is("the second", x.neighbours(6, none, false), StuckVanes.UNKNOWN);
        }
        for (int parish = 0; parish < 7; parish++) {
            due.is("both are one", x.neighbours(parish, parish, true), StuckVanes.UNKNOWN);
            due.is("both are one", x.neighbours(parish, parish, false), StuckVanes.UNKNOWN);
            due.is("nothing changed", x.told(10 + parish), 0);
        }
    }

    /** "THINGS 0 to 7 ..; some are HELD (none at first)." */
    private static void noneHeldAtFirst() {
        StuckVanes x = new StuckVanes();
        due.is("told", x.told(2), 0);
        due.is("then", x.then(0), 0);
        due.is("creed", x.creed(0), 0);
    }

    /** "THINGS that are HELD (bits 0 to 255): which were. OUTSIDE." */
    private static void bitsOfThings() {
        StuckVanes x = new StuckVanes();
        due.is("all", x.creed(255), 0);
        for (int things : new int[] {-1, 256, Integer.MIN_VALUE, Integer.MAX_VALUE}) {
            due.is("creed(" + things + ")", x.creed(things), StuckVanes.OUTSIDE);
        }
        due.is("none", x.creed(0), 255);
        due.is("the last", x.creed(128), 0);
        due.is("the first", x.creed(1), 128);
        due.is("told", x.told(2), 1);
    }

    /** "The WIND is from 0 to 7 (0 at first)."; weather: "OUTSIDE". */
    private static void windAtFirst() {
        StuckVanes x = new StuckVanes();
        due.is("at first", x.told(3), 0);
        for (int wind : new int[] {-1, 8, Integer.MIN_VALUE, Integer.MAX_VALUE}) {
            due.is("weather(" + wind + ", 0)", x.weather(wind, 0), StuckVanes.OUTSIDE);
        }
        due.is("still", x.told(3), 0);
        due.is("oil, too", x.told(4), 5);
        x.weather(7, 0);
        due.is("the last", x.told(3), 7);
        x.weather(0, 0);
        due.is("the first", x.told(3), 0);
    }

    /** "OIL is 0 to 9 (5 at first)."; weather: "OUTSIDE". */
    private static void oilAtFirst() {
        StuckVanes x = new StuckVanes();
        due.is("at first", x.told(4), 5);
        for (int oil : new int[] {-1, 10, Integer.MIN_VALUE, Integer.MAX_VALUE}) {
            due.is("weather(1, " + oil + ")", x.weather(1, oil), StuckVanes.OUTSIDE);
        }
        due.is("still", x.told(4), 5);
        due.is("the wind, too", x.told(3), 0);
        x.weather(1, 9);
        due.is("the most", x.told(4), 9);
        x.weather(1, 0);
        due.is("the least", x.told(4), 0);
    }

    /** "10 times the WIND, and OIL, as they were." */
    private static void windAndOilAsTheyWere() {
        StuckVanes x = new StuckVanes();
        due.is("at first", x.weather(0, 0), 5);
        due.is("the least", x.weather(7, 9), 0);
        due.is("the most", x.weather(7, 0), 79);
        due.is("no oil", x.weather(0, 9), 70);
        due.is("no wind", x.weather(0, 9), 9);
    }

    /** "It is hour 0 at first." */
    private static void hourAtFirst() {
        StuckVanes x = new StuckVanes();
        due.is("told", x.told(5), 0);
        due.is("then", x.then(3), 0);
        due.pad(x, ".");
        due.is("an hour more", x.then(3), 1);
    }
}
