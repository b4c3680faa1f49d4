/** The edges of promises 25 to 27: images, and what is told. Each method tests the sentence that stands over it. */
public final class EdgesOfImagesTest {
    private static final Due due = new Due();

    public static void main(String[] args) {
        imagesNoughtAndOne();
        itWasNotKept();
        allButThePad();
        asItWasWhenItWasKept();
        keptAnew();
        toldOfAll();
        toldOfNeighbours();
        toldOfAParishThatIsThere();
        toldOutside();
        due.end();
    }

    private static int same(String before, StuckVanes x) {
        return before.equals(State.of(x)) ? 1 : 0;
    }

    /** "an IMAGE (0, 1): 1. OUTSIDE", both to keep it and to restore it */
    private static void imagesNoughtAndOne() {
        StuckVanes x = new StuckVanes();
        for (int n : new int[] {-1, 2, Integer.MIN_VALUE, Integer.MAX_VALUE}) {
            due.is("image(" + n + ")", x.image(n), StuckVanes.OUTSIDE);
            due.is("restore(" + n + ")", x.restore(n), StuckVanes.OUTSIDE);
        }
        for (int n = 0; n < 2; n++) {
            due.is("image(" + n + ")", x.image(n), 1);
            due.is("restore(" + n + ")", x.restore(n), 1);
        }
    }

    /** restore: "STATE: it was not [kept]" */
    private static void itWasNotKept() {
        for (int n = 0; n < 2; n++) {
            StuckVanes x = new StuckVanes();
            due.is("neither", x.restore(n), StuckVanes.STATE);
            x.image(1 - n);
            due.is("the other one", x.restore(n), StuckVanes.STATE);
            x.image(n);
            due.is("both", x.restore(n), 1);
        }
    }

    /** "All but the PAD is kept" */
    private static void allButThePad() {
        StuckVanes x = new StuckVanes();
        due.pad(x, ".A");
        due.is("kept", x.image(0), 1);
        x.wipe();
        due.is("restored to an empty pad", x.restore(0), 1);
        due.is("no signs", x.told(0), 0);
        due.pad(x, "w1w2");
        due.is("restored to a pad of four", x.restore(0), 1);
        due.is("four signs", x.told(0), 4);
        due.is("they stand", x.done(), 2);
    }

    /** "It is as it was when it was kept" */
    private static void asItWasWhenItWasKept() {
        StuckVanes x = new StuckVanes();
        x.parish(6, 7, true, 9);
        x.neighbours(0, 6, true);
        x.weather(7, 9);
        x.creed(128);
        due.doneIs(x, "..", 2);
        x.seen(7, true);
        x.seen(6, false);
        x.image(0);
        String before = State.of(x);
        x.parish(6, 0, false, 0);
        x.parish(0, 0, false, 0);
        x.neighbours(0, 6, false);
        x.neighbours(1, 2, true);
        x.weather(0, 0);
        x.creed(1);
        due.doneIs(x, ".", 1);
        x.forget();
        due.is("restored", x.restore(0), 1);
        due.is("as it was", same(before, x), 1);
        due.is("six sights more", seenUntilFull(x), 6);
        due.is("restored again", x.restore(0), 1);
        due.is("as it was", same(before, x), 1);
    }

    private static int seenUntilFull(StuckVanes x) {
        int more = 0;
        while (more < 9 && x.seen(0, true) != StuckVanes.FULL) {
            more++;
        }
        return more;
    }

    /** "is kept in an IMAGE": over what was kept there */
    private static void keptAnew() {
        StuckVanes x = new StuckVanes();
        x.image(0);
        x.image(1);
        x.creed(3);
        x.image(1);
        x.creed(7);
        x.restore(0);
        due.is("the first", x.told(2), 0);
        x.restore(1);
        due.is("the second, anew", x.told(2), 3);
    }

    /** told: "0 signs, 1 PARISHES (bits), 2 THINGS .. (bits), 3 the WIND, 4 OIL, 5 the hour, 6 SIGHTS" */
    private static void toldOfAll() {
        StuckVanes x = new StuckVanes();
        for (int parish = 0; parish < 7; parish++) {
            x.parish(parish, 0, false, 0);
        }
        String fifty = "..................................................";
        due.doneIs(x, fifty, 50);
        due.doneIs(x, fifty.substring(1), 49);
        x.creed(255);
        x.weather(7, 9);
        for (int i = 0; i < 8; i++) {
            x.seen(i, true);
        }
        due.pad(x, fifty + "..........");
        int[] most = {60, 127, 255, 7, 9, 99, 8};
        for (int what = 0; what < most.length; what++) {
            due.is("told(" + what + ")", x.told(what), most[what]);
        }
    }

    /** told: "10 and a PARISH: NEIGHBOURS (bits)", be it there or not */
    private static void toldOfNeighbours() {
        StuckVanes x = new StuckVanes();
        for (int parish = 0; parish < 6; parish++) {
            x.neighbours(parish, 6, true);
        }
        due.is("the first", x.told(10), 64);
        due.is("the last", x.told(16), 63);
        x.parish(6, 0, false, 0);
        due.is("there", x.told(16), 63);
        due.is("below", x.told(9), StuckVanes.OUTSIDE);
        due.is("above", x.told(17), StuckVanes.OUTSIDE);
    }

    /** told: "20 and a PARISH that is there: where it POINTS; 30 ..: how TIRED; 40 ..: FREE (1, 0)" */
    private static void toldOfAParishThatIsThere() {
        StuckVanes x = new StuckVanes();
        x.parish(0, 7, false, 9);
        x.parish(6, 5, true, 8);
        int[][] want = {{20, 7, 5}, {30, 9, 8}, {40, 0, 1}};
        for (int[] row : want) {
            due.is("the first", x.told(row[0]), row[1]);
            due.is("the last", x.told(row[0] + 6), row[2]);
            for (int parish = 1; parish < 6; parish++) {
                due.is("not there", x.told(row[0] + parish), StuckVanes.OUTSIDE);
            }
            due.is("no parish", x.told(row[0] + 7), StuckVanes.OUTSIDE);
        }
    }

    /** told: "OUTSIDE" */
    private static void toldOutside() {
        StuckVanes x = new StuckVanes();
        for (int parish = 0; parish < 7; parish++) {
            x.parish(parish, 0, true, 0);
        }
        for (int what = -20; what < 120; what++) {
            boolean within = what >= 0 && what <= 6 || what >= 10 && what < 50 && what % 10 < 7;
            due.is("told(" + what + ")", x.told(what) == StuckVanes.OUTSIDE ? 1 : 0, within ? 0 : 1);
        }
        due.is("far below", x.told(Integer.MIN_VALUE), StuckVanes.OUTSIDE);
        due.is("far above", x.told(Integer.MAX_VALUE), StuckVanes.OUTSIDE);
    }
}
