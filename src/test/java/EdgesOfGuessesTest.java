/** The edges of SIGHTS: promises 18 to 21. Each method tests the sentence that stands over it. */
public final class EdgesOfGuessesTest {
    private static final Due due = new Due();

    public static void main(String[] args) {
        eightAtMost();
        sightOfNoThing();
        twiceIsTwo();
        howManyThereWere();
        withoutSights();
        byNoughtToThree();
        roundTheNorth();
        agreedOrNot();
        rising();
        beyondTheLast();
        belowTheFirst();
        nothingFits();
        whateverItSays();
        theLeast();
        firstAndLastOfAll();
        askWhat();
        due.end();
    }

    private static void seenAll(StuckVanes x, int agreed, int refused) {
        for (int thing = 0; thing < 8; thing++) {
            if ((agreed >> thing & 1) != 0) {
                x.seen(thing, true);
            }
            if ((refused >> thing & 1) != 0) {
                x.seen(thing, false);
            }
        }
    }

    /** "SIGHTS, 8 at most"; seen: "A SIGHT more: how many. .. FULL." */
    private static void eightAtMost() {
        StuckVanes x = new StuckVanes();
        for (int many = 1; many <= 8; many++) {
            due.is("how many", x.seen(8 - many, true), many);
            due.is("told", x.told(6), many);
        }
        due.is("one too many", x.seen(0, true), StuckVanes.FULL);
        due.is("and again", x.seen(0, false), StuckVanes.FULL);
        due.is("eight stand", x.told(6), 8);
        x.forget();
        due.is("room again", x.seen(0, false), 1);
    }

    /** seen: "UNKNOWN: the THING" */
    private static void sightOfNoThing() {
        StuckVanes x = new StuckVanes();
        for (int thing : new int[] {-1, 8, Integer.MIN_VALUE, Integer.MAX_VALUE}) {
            due.is("seen(" + thing + ", true)", x.seen(thing, true), StuckVanes.UNKNOWN);
            due.is("seen(" + thing + ", false)", x.seen(thing, false), StuckVanes.UNKNOWN);
        }
        due.is("none stands", x.told(6), 0);
        due.is("all fit", x.stuck(-1), 32);
        due.is("the first", x.seen(0, true), 1);
        due.is("the last", x.seen(7, true), 2);
    }

    /** "A SIGHT more": of the same THING, too */
    private static void twiceIsTwo() {
        StuckVanes x = new StuckVanes();
        due.is("once", x.seen(3, true), 1);
        due.is("twice", x.seen(3, true), 2);
        due.is("nothing new", x.stuck(-1), 16);
        due.is("otherwise", x.seen(3, false), 3);
        due.is("nothing fits", x.stuck(-1), 0);
    }

    /** "SIGHTS go: how many there were." */
    private static void howManyThereWere() {
        StuckVanes x = new StuckVanes();
        due.is("none", x.forget(), 0);
        x.seen(0, true);
        due.is("one", x.forget(), 1);
        due.is("all fit", x.stuck(-1), 32);
        x.seen(0, false);
        due.is("one", x.forget(), 1);
        due.is("all fit", x.stuck(-1), 32);
        seenAll(x, 240, 15);
        due.is("full", x.forget(), 8);
        due.is("none again", x.forget(), 0);
        due.is("told", x.told(6), 0);
    }

    /** "without SIGHTS all 32" */
    private static void withoutSights() {
        StuckVanes x = new StuckVanes();
        due.is("how many", x.stuck(-1), 32);
        due.is("the first", x.stuck(0), 0);
        due.is("the last", x.stuck(31), 73);
        due.is("the most to ask", x.ask(1), 16);
    }

    /** "APART from d by h (0 to 3) at the most" */
    private static void byNoughtToThree() {
        int[] agreed = {1 << 4, 7 << 3, 31 << 2, 127 << 1};
        for (int h = 0; h < 4; h++) {
            StuckVanes x = new StuckVanes();
            seenAll(x, agreed[h], 255 & ~agreed[h]);
            due.is("one fits", x.stuck(-1), 1);
            due.is("by " + h, x.stuck(0), 40 + h);
        }
        StuckVanes all = new StuckVanes();
        seenAll(all, 255, 0);
        due.is("to all agrees nobody", all.stuck(-1), 0);
        StuckVanes none = new StuckVanes();
        seenAll(none, 0, 255);
        due.is("to none agrees nobody", none.stuck(-1), 0);
    }

    /** "APART of two ways: the fewer eighths .., either way round": round the north */
    private static void roundTheNorth() {
        StuckVanes x = new StuckVanes();
        seenAll(x, 1 + 2 + 128, 4 + 64);
        due.is("one fits", x.stuck(-1), 1);
        due.is("north by 1", x.stuck(0), 1);
        StuckVanes y = new StuckVanes();
        seenAll(y, 128 + 1 + 64, 32 + 2);
        due.is("one fits", y.stuck(-1), 1);
        due.is("north-west by 1", y.stuck(0), 71);
    }

    /** "it AGREED to a THING, or did not" */
    private static void agreedOrNot() {
        StuckVanes x = new StuckVanes();
        x.seen(0, true);
        due.is("agreed, the first", x.stuck(0), 0);
        due.is("agreed, how many", x.stuck(-1), 16);
        due.is("agreed, from 3 by 3", x.stuck(9), 33);
        due.is("agreed, from 4 never", x.stuck(10), 53);
        StuckVanes y = new StuckVanes();
        y.seen(0, false);
        due.is("not, the first", y.stuck(0), 10);
        due.is("not, how many", y.stuck(-1), 16);
    }

    /** "the i-th (rising)" */
    private static void rising() {
        StuckVanes x = new StuckVanes();
        x.seen(7, true);
        int before = -1;
        for (int i = 0; i < 16; i++) {
            due.is("rising at " + i, x.stuck(i) > before ? 1 : 0, 1);
            before = x.stuck(i);
        }
        due.is("the first", x.stuck(0), 1);
        due.is("the last", x.stuck(15), 73);
    }

    /** stuck: "the i-th; NONE": beyond the last */
    private static void beyondTheLast() {
        StuckVanes x = new StuckVanes();
        due.is("the 32nd", x.stuck(31), 73);
        due.is("beyond", x.stuck(32), StuckVanes.NONE);
        x.seen(0, true);
        due.is("the last", x.stuck(15), 73);
        due.is("beyond", x.stuck(16), StuckVanes.NONE);
        due.is("far beyond", x.stuck(Integer.MAX_VALUE), StuckVanes.NONE);
    }

    /** stuck: "how many (i = -1) ..; NONE (i below -1, too)" */
    private static void belowTheFirst() {
        StuckVanes x = new StuckVanes();
        due.is("-1", x.stuck(-1), 32);
        due.is("-2", x.stuck(-2), StuckVanes.NONE);
        due.is("far below", x.stuck(Integer.MIN_VALUE), StuckVanes.NONE);
    }

    /** ask: "NONE: nothing fits"; stuck, too, has none then */
    private static void nothingFits() {
        StuckVanes x = new StuckVanes();
        seenAll(x, 1, 1);
        due.is("thing", x.ask(0), StuckVanes.NONE);
        due.is("how many", x.ask(1), StuckVanes.NONE);
        due.is("how many fit", x.stuck(-1), 0);
        due.is("the first", x.stuck(0), StuckVanes.NONE);
        x.forget();
        due.is("all fit again", x.ask(0), 0);
    }

    /** "so that, whatever it says, fewest of these are left at the most" */
    private static void whateverItSays() {
        StuckVanes x = new StuckVanes();
        seenAll(x, 4, 8);
        // 2, 11, 20 and 73 fit: 0 would part them by three, 6 by two.
        due.is("four fit", x.stuck(-1), 4);
        due.is("thing", x.ask(0), 6);
        due.is("how many", x.ask(1), 2);
        x.seen(0, false);
        // 20 alone fits: nothing that is asked leaves fewer.
        due.is("one fits", x.stuck(-1), 1);
        due.is("how many", x.ask(1), 1);
    }

    /** "the least" of THINGS that leave as few */
    private static void theLeast() {
        StuckVanes x = new StuckVanes();
        due.is("all are alike", x.ask(0), 0);
        seenAll(x, 128 + 1 + 2, 4 + 64);
        due.is("one fits", x.stuck(-1), 1);
        due.is("none parts it", x.ask(0), 0);
    }

    /** "d" from 0 and "h" from 0 on, to 7 and 3: the first and the last of all can be the one that is left */
    private static void firstAndLastOfAll() {
        StuckVanes x = new StuckVanes();
        seenAll(x, 1, 2 + 128);
        due.is("the first alone", x.stuck(-1), 1);
        due.is("the first", x.stuck(0), 0);
        due.is("ask", x.ask(0), 0);
        due.is("how many", x.ask(1), 1);
        StuckVanes y = new StuckVanes();
        seenAll(y, 4 + 16, 8);
        due.is("the last alone", y.stuck(-1), 1);
        due.is("the last", y.stuck(0), 73);
        due.is("ask", y.ask(0), 0);
        due.is("how many", y.ask(1), 1);
    }

    /** ask: "the THING (what = 0), how many (1) .. OUTSIDE" */
    private static void askWhat() {
        StuckVanes x = new StuckVanes();
        due.is("thing", x.ask(0), 0);
        due.is("how many", x.ask(1), 16);
        for (int what : new int[] {-1, 2, Integer.MIN_VALUE, Integer.MAX_VALUE}) {
            due.is("ask(" + what + ")", x.ask(what), StuckVanes.OUTSIDE);
        }
        seenAll(x, 1, 1);
        due.is("nothing fits, and outside", x.ask(2), StuckVanes.OUTSIDE);
    }
}
