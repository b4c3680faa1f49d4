/**
 * The edges of ACTS: what the document's Terms say of WEEKS and of part 2, and promises 9 to 13. Each method tests
 * the sentence that stands over it.
 */
public final class EdgesOfWeeksTest {
    private static final Due due = new Due();
    private static final String TEN_HOURS = "..........";
    private static final String FORTY_NINE = TEN_HOURS + TEN_HOURS + TEN_HOURS + TEN_HOURS + ".........";

    public static void main(String[] args) {
        apartEitherWayRound();
        agreesByOneAtMost();
        oneOfOilLess();
        byHandPointsThere();
        theWindIsFromThere();
        moreThanHalf();
        elseItIsNotHeld();
        eastwardsIfAsNear();
        onlyFreeVanesTurn();
        nineAtMost();
        noughtAtLeast();
        freeAndThereRests();
        noSuchParish();
        freeStuckAlready();
        pointsThereAlready();
        noOil();
        windFromThereAlready();
        noParishes();
        hourNinetyNine();
        theLeastReason();
        due.end();
    }

    private static StuckVanes one(int points, boolean free, int tired) {
        StuckVanes x = new StuckVanes();
        x.parish(0, points, free, tired);
        return x;
    }

    private static void canBe(StuckVanes x, String text) {
        due.judged(x, text, StuckVanes.NONE, StuckVanes.NONE);
    }

    /** "APART of two ways: the fewer eighths from one to the other, either way round (0 to 4)." */
    private static void apartEitherWayRound() {
        for (int way = 0; way < 8; way++) {
            StuckVanes x = one(way, true, 0);
            for (int other = 0; other < 8; other++) {
                int apart = Math.min(Math.floorMod(way - other, 8), Math.floorMod(other - way, 8));
                // By soon: a wind from there brings a vane that is further off to agree, an hour for each eighth.
                due.is("soon from " + way + " to " + other, x.soon(other, other), Math.max(0, apart - 1));
            }
        }
    }

    /** "A PARISH AGREES to a THING, if its VANE is APART from it by 1 at the most."; agrees: "UNKNOWN". */
    private static void agreesByOneAtMost() {
        int[] north = {1, 1, 0, 0, 0, 0, 0, 1};
        int[] northWest = {1, 0, 0, 0, 0, 0, 1, 1};
        StuckVanes x = one(0, false, 0);
        StuckVanes y = one(7, true, 0);
        StuckVanes nobody = new StuckVanes();
        for (int thing = 0; thing < 8; thing++) {
            due.is("0 to " + thing, x.agrees(thing), north[thing]);
            due.is("7 to " + thing, y.agrees(thing), northWest[thing]);
            due.is("nobody to " + thing, nobody.agrees(thing), 0);
        }
        for (int thing : new int[] {-1, 8, Integer.MIN_VALUE, Integer.MAX_VALUE}) {
            due.is("agrees(" + thing + ")", x.agrees(thing), StuckVanes.UNKNOWN);
        }
    }

    /** "* (its VANE is FREE; one of OIL less)" */
    private static void oneOfOilLess() {
        StuckVanes x = one(0, false, 0);
        x.weather(0, 1);
        due.doneIs(x, "A*", 1);
        due.is("free", x.told(40), 1);
        due.is("the last of oil", x.told(4), 0);
        due.doneIs(x, "A#", 1);
        due.is("stuck", x.told(40), 0);
        due.is("no oil for it", x.told(4), 0);
        x.weather(0, 9);
        due.doneIs(x, "A*", 1);
        due.is("of the most", x.told(4), 8);
    }

    /** "or a digit 0 to 7 (by hand: its VANE POINTS there)" */
    private static void byHandPointsThere() {
        StuckVanes x = one(3, true, 5);
        due.doneIs(x, "A0", 1);
        due.is("to 0", x.told(20), 0);
        due.doneIs(x, "A7", 1);
        due.is("to 7", x.told(20), 7);
        due.is("tired as before", x.told(30), 5);
        due.is("free as before", x.told(40), 1);
    }

    /** "w and a digit 0 to 7 (the WIND is from there)" */
    private static void theWindIsFromThere() {
        StuckVanes x = one(3, true, 5);
        due.doneIs(x, "w7", 1);
        due.is("from 7", x.told(3), 7);
        due.doneIs(x, "w0", 1);
        due.is("from 0", x.told(3), 0);
        due.is("no hour", x.told(5), 0);
        due.is("nothing turned", x.told(20), 3);
    }

    /** "if more than half of the PARISHES that are there AGREE to that THING, it is carried: HELD" */
    private static void moreThanHalf() {
        for (int many = 1; many <= 7; many++) {
            for (int agreeing = 0; agreeing <= many; agreeing++) {
                StuckVanes x = new StuckVanes();
                for (int parish = 0; parish < many; parish++) {
                    x.parish(6 - parish, parish < agreeing ? 7 : 4, parish % 2 == 0, 0);
                }
                due.doneIs(x, "v0", 1);
                due.is(agreeing + " of " + many, x.told(2), agreeing > many - agreeing ? 1 : 0);
            }
        }
    }

    /** "else it is not HELD" */
    private static void elseItIsNotHeld() {
        StuckVanes x = one(0, false, 0);
        x.parish(1, 4, false, 0);
        x.creed(255);
        due.doneIs(x, "v0", 1);
        due.is("let go, by half", x.told(2), 254);
        due.doneIs(x, "v2", 1);
        due.is("let go, by none", x.told(2), 250);
        due.doneIs(x, "v0", 1);
        due.is("not held before", x.told(2), 250);
    }

    /** "goes an eighth nearer, eastwards, if it is as near either way" */
    private static void eastwardsIfAsNear() {
        for (int wind = 0; wind < 8; wind++) {
            int[] from = {4, 3, 5, 1, 7, 0};
            int[] to = {5, 2, 6, 0, 0, 0};
            for (int i = 0; i < from.length; i++) {
                StuckVanes x = one((wind + from[i]) % 8, true, 0);
                x.weather(wind, 0);
                due.doneIs(x, ".", 1);
                due.is("from " + from[i] + " by wind " + wind, x.told(20), (wind + to[i]) % 8);
            }
        }
    }

    /** "each FREE VANE that does not POINT to the WIND goes an eighth nearer"; a stuck one does not. */
    private static void onlyFreeVanesTurn() {
        StuckVanes x = one(4, false, 5);
        x.parish(6, 4, true, 5);
        due.doneIs(x, ".", 1);
        due.is("stuck", x.told(20), 4);
        due.is("free", x.told(26), 5);
        due.doneIs(x, "A*.", 2);
        due.is("free now", x.told(20), 5);
        due.doneIs(x, "A#..", 3);
        due.is("stuck again", x.told(20), 5);
        due.is("there", x.told(26), 0);
    }

    /** "its PARISH is TIRED by 1 more, 9 at most" */
    private static void nineAtMost() {
        StuckVanes x = one(4, true, 8);
        due.doneIs(x, ".", 1);
        due.is("9", x.told(30), 9);
        due.doneIs(x, ".", 1);
        due.is("9 still", x.told(30), 9);
        due.is("turned all the same", x.told(20), 6);
    }

    /** "each other PARISH .. by 1 less, 0 at least" */
    private static void noughtAtLeast() {
        StuckVanes x = one(4, false, 1);
        due.doneIs(x, ".", 1);
        due.is("0", x.told(30), 0);
        due.doneIs(x, ".", 1);
        due.is("0 still", x.told(30), 0);
    }

    /** "(one with a FREE VANE that POINTS to the WIND, too)" */
    private static void freeAndThereRests() {
        StuckVanes x = one(7, true, 3);
        due.doneIs(x, ".", 1);
        due.is("an eighth", x.told(20), 0);
        due.is("more tired", x.told(30), 4);
        due.doneIs(x, ".", 1);
        due.is("stays", x.told(20), 0);
        due.is("less tired", x.told(30), 3);
        due.doneIs(x, "....", 4);
        due.is("not tired", x.told(30), 0);
    }

    /** "1 there is no such PARISH" */
    private static void noSuchParish() {
        StuckVanes x = one(0, true, 0);
        for (String act : new String[] {"B*", "B#", "B0", "G*", "G#", "G7"}) {
            due.judged(x, act, 0, 1);
        }
        x.parish(1, 4, false, 0);
        canBe(x, "B*");
        x.parish(6, 4, true, 0);
        canBe(x, "G#");
        canBe(x, "G7");
    }

    /** "2 it is FREE already (*), stuck already (#), stuck (a digit)" */
    private static void freeStuckAlready() {
        StuckVanes free = one(0, true, 0);
        due.judged(free, "A*", 0, 2);
        canBe(free, "A#");
        canBe(free, "A7");
        StuckVanes stuck = one(0, false, 0);
        canBe(stuck, "A*");
        due.judged(stuck, "A#", 0, 2);
        due.judged(stuck, "A7", 0, 2);
        due.judged(stuck, "A*A*", 1, 2);
        due.judged(free, "A#A#", 1, 2);
        due.judged(free, "A#A7", 1, 2);
    }

    /** "3 it POINTS there already (a digit)" */
    private static void pointsThereAlready() {
        for (int way = 0; way < 8; way++) {
            StuckVanes x = one(way, true, 0);
            due.judged(x, "A" + way, 0, 3);
            canBe(x, "A" + (way + 1) % 8);
            canBe(x, "A" + (way + 7) % 8);
            due.judged(x, "A" + (way + 1) % 8 + "A" + (way + 1) % 8, 1, 3);
        }
    }

    /** "4 there is no OIL (*)" */
    private static void noOil() {
        StuckVanes x = one(0, false, 0);
        x.parish(1, 0, false, 0);
        x.weather(0, 0);
        due.judged(x, "A*", 0, 4);
        x.weather(0, 1);
        canBe(x, "A*");
        due.judged(x, "A*B*", 1, 4);
        x.weather(0, 2);
        canBe(x, "A*B*");
        x.parish(2, 0, true, 0);
        x.weather(0, 0);
        canBe(x, "C#");
        canBe(x, "C1");
    }

    /** "5 the WIND is from there already (w)" */
    private static void windFromThereAlready() {
        StuckVanes x = new StuckVanes();
        due.judged(x, "w0", 0, 5);
        canBe(x, "w1");
        canBe(x, "w7");
        due.judged(x, "w7w7", 1, 5);
        canBe(x, "w7w0");
        x.weather(7, 0);
        due.judged(x, "w7", 0, 5);
        canBe(x, "w0");
    }

    /** "6 there are no PARISHES (v)" */
    private static void noParishes() {
        StuckVanes x = new StuckVanes();
        due.judged(x, "v0", 0, 6);
        due.judged(x, "v7", 0, 6);
        canBe(x, ".");
        canBe(x, "w1");
        x.parish(6, 0, false, 0);
        canBe(x, "v0");
        canBe(x, "v7");
    }

    /** "7 it is hour 99 (.)" */
    private static void hourNinetyNine() {
        StuckVanes x = one(0, false, 0);
        due.doneIs(x, FORTY_NINE, 49);
        due.doneIs(x, FORTY_NINE, 49);
        due.is("hour 98", x.told(5), 98);
        canBe(x, ".");
        due.judged(x, "..", 1, 7);
        due.doneIs(x, ".", 1);
        due.is("hour 99", x.told(5), 99);
        due.judged(x, ".", 0, 7);
        due.is("not done", x.done(), StuckVanes.NO);
        due.is("hour 99 still", x.told(5), 99);
        canBe(x, "A*w1v0");
    }

    /** "An ACT can not be for the least of these reasons" */
    private static void theLeastReason() {
        StuckVanes x = one(3, false, 0);
        x.parish(1, 3, true, 0);
        x.weather(0, 0);
        due.judged(x, "C*", 0, 1);
        due.judged(x, "C#", 0, 1);
        due.judged(x, "C0", 0, 1);
        due.judged(x, "B*", 0, 2);
        due.judged(x, "A3", 0, 2);
        due.judged(new StuckVanes(), "A0", 0, 1);
    }
}
