/** The edges of part 3: promises 14 to 17. Each method tests the sentence that stands over it. */
public final class EdgesOfAgendasTest {
    private static final Due due = new Due();

    public static void main(String[] args) {
        noughtHours();
        theMostHours();
        beyondHourNinetyNine();
        neverCarried();
        soonOfNoThing();
        soonOfNoWind();
        asThingsAreNow();
        neitherIfByAsMuch();
        theOneOfLessNumber();
        agendaOfSoMany();
        eachOnce();
        soManyDigits();
        aNoughtAhead();
        theFirstTwo();
        allEight();
        howManyItBeats();
        canOfNoThing();
        canWhat();
        waysOfSoMany();
        stuckOnesToo();
        neighboursNotThere();
        nobodyIsThere();
        theFewest();
        noMatterButAsTold();
        waysWhat();
        due.end();
    }

    private static StuckVanes one(int points, boolean free) {
        StuckVanes x = new StuckVanes();
        x.parish(0, points, free, 0);
        return x;
    }

    private static StuckVanes allSeven() {
        StuckVanes x = new StuckVanes();
        for (int parish = 0; parish < 7; parish++) {
            x.parish(parish, parish, parish % 2 == 0, 0);
        }
        return x;
    }

    /** "behind how many hours (0 to 8 ..)": a THING that would be carried at once */
    private static void noughtHours() {
        StuckVanes x = one(0, false);
        due.is("stuck, there", x.soon(0, 4), 0);
        due.is("stuck, beside", x.soon(7, 4), 0);
        due.is("free, there", one(0, true).soon(0, 4), 0);
        due.is("free, beside", one(0, true).soon(1, 4), 0);
        due.is("free, not beside", one(0, true).soon(2, 4), 1);
    }

    /** "behind how many hours (0 to 8 ..)": four turn a VANE wherever it goes, so four are the most that is answered */
    private static void theMostHours() {
        StuckVanes x = one(4, true);
        due.is("three", x.soon(0, 0), 3);
        due.is("four", x.soon(1, 0), 4);
        due.is("never", x.soon(2, 0), StuckVanes.NONE);
        due.is("round the north", one(6, true).soon(3, 2), 4);
    }

    /** "beyond hour 99, too" */
    private static void beyondHourNinetyNine() {
        StuckVanes x = one(4, false);
        String fifty = "..................................................";
        due.doneIs(x, fifty, 50);
        due.doneIs(x, fifty.substring(1), 49);
        x.parish(0, 4, true, 0);
        due.judged(x, ".", 0, 7);
        due.is("from hour 99", x.soon(1, 0), 4);
        due.is("hour 99 still", x.told(5), 99);
    }

    /** soon: "NONE" */
    private static void neverCarried() {
        StuckVanes x = new StuckVanes();
        due.is("nobody", x.soon(0, 0), StuckVanes.NONE);
        x.parish(0, 4, false, 0);
        due.is("stuck", x.soon(0, 0), StuckVanes.NONE);
        x.parish(1, 0, true, 0);
        due.is("half", x.soon(0, 0), StuckVanes.NONE);
        x.parish(2, 2, true, 0);
        due.is("more than half", x.soon(0, 0), 1);
    }

    /** soon: "UNKNOWN: the THING" */
    private static void soonOfNoThing() {
        StuckVanes x = one(0, true);
        for (int thing : new int[] {-1, 8, Integer.MIN_VALUE, Integer.MAX_VALUE}) {
            due.is("soon(" + thing + ", 0)", x.soon(thing, 0), StuckVanes.UNKNOWN);
        }
        due.is("the first", x.soon(0, 0), 0);
        due.is("the last", x.soon(7, 0), 0);
    }

    /** soon: "OUTSIDE: w" */
    private static void soonOfNoWind() {
        StuckVanes x = one(4, true);
        for (int wind : new int[] {-1, 8, Integer.MIN_VALUE, Integer.MAX_VALUE}) {
            due.is("soon(0, " + wind + ")", x.soon(0, wind), StuckVanes.OUTSIDE);
        }
        due.is("the first", x.soon(0, 0), 3);
        due.is("the last", x.soon(0, 7), 3);
    }

    /** "(As things are now.)": not as the PAD would have them, and nothing is DONE */
    private static void asThingsAreNow() {
        StuckVanes x = one(4, true);
        x.weather(2, 5);
        due.pad(x, "A0w0");
        String before = State.of(x);
        due.is("the vane points 4", x.soon(0, 0), 3);
        due.is("nothing is done", State.of(x).equals(before) ? 1 : 0, 1);
        due.is("agenda", x.agenda(4, 2), 4);
        due.is("can", x.can(0, 1), 0);
    }

    /** "neither, if by as much" */
    private static void neitherIfByAsMuch() {
        // A at 0 is as near to 1 as to 7; C at 6 alone likes 7 better.
        StuckVanes x = one(0, false);
        due.is("as much", x.agenda(71, 2), 1);
        x.parish(2, 6, false, 0);
        due.is("one likes better", x.agenda(17, 2), 7);
        x.parish(3, 4, false, 0);
        due.is("opposite, as much", x.agenda(17, 2), 7);
    }

    /** "the one of less number, if as many do" */
    private static void theOneOfLessNumber() {
        StuckVanes x = new StuckVanes();
        due.is("nobody", x.agenda(67, 2), 6);
        due.is("nobody, turned", x.agenda(76, 2), 6);
        x.parish(0, 2, false, 0);
        x.parish(1, 6, false, 0);
        due.is("one each", x.agenda(26, 2), 2);
        due.is("one each, turned", x.agenda(62, 2), 2);
        x.parish(2, 6, false, 0);
        due.is("two of three", x.agenda(26, 2), 6);
    }

    /** "a row of n THINGS (2 to 8 ..)"; agenda: "OUTSIDE: n" */
    private static void agendaOfSoMany() {
        StuckVanes x = new StuckVanes();
        due.is("two", x.agenda(12, 2), 1);
        due.is("eight", x.agenda(76543210, 8), 0);
        int[][] none = {{1, 1}, {0, 0}, {0, 1}, {1, -2}, {123456780, 9}, {12, Integer.MIN_VALUE}, {12, Integer.MAX_VALUE}};
        for (int[] row : none) {
            due.is("agenda(" + row[0] + ", " + row[1] + ")", x.agenda(row[0], row[1]), StuckVanes.OUTSIDE);
        }
    }

    /** "a row of n THINGS (.. each once ..)" */
    private static void eachOnce() {
        StuckVanes x = new StuckVanes();
        for (int[] row : new int[][] {{11, 2}, {0, 2}, {121, 3}, {1233, 4}, {1, 3}, {12345677, 8}, {77654321, 8}}) {
            due.is("agenda(" + row[0] + ", " + row[1] + ")", x.agenda(row[0], row[1]), StuckVanes.OUTSIDE);
        }
        due.is("each once", x.agenda(7654321, 7), 1);
    }

    /** "n digits", each of a THING; agenda: "OUTSIDE: .. a row that is none" */
    private static void soManyDigits() {
        StuckVanes x = new StuckVanes();
        for (int[] row : new int[][] {{123, 2}, {1, 3}, {12345, 4}, {1002, 3}, {-12, 2}, {-1, 2}, {18, 2}, {81, 2}, {92, 2},
            {29, 2}, {12345678, 8}, {123456701, 8}, {Integer.MIN_VALUE, 8}, {Integer.MAX_VALUE, 8}, {Integer.MIN_VALUE, 2}}) {
            due.is("agenda(" + row[0] + ", " + row[1] + ")", x.agenda(row[0], row[1]), StuckVanes.OUTSIDE);
        }
        due.is("three of three", x.agenda(123, 3), 1);
        due.is("the last thing", x.agenda(71, 2), 1);
    }

    /** "a 0 may be ahead" */
    private static void aNoughtAhead() {
        StuckVanes x = one(0, false);
        due.is("two", x.agenda(4, 2), 0);
        due.is("three", x.agenda(43, 3), 0);
        due.is("eight", x.agenda(1234567, 8), 0);
        due.is("two ahead", x.agenda(3, 3), StuckVanes.OUTSIDE);
        due.is("not of so many", x.agenda(4, 1), StuckVanes.OUTSIDE);
    }

    /** "the first ones first": "the first two are voted on, then the one that BEATS and the third, and so on" */
    private static void theFirstTwo() {
        StuckVanes x = one(0, false);
        x.parish(1, 2, false, 0);
        x.parish(2, 5, false, 0);
        due.is("0 beats 6", x.agenda(60, 2), 0);
        due.is("6 beats 3", x.agenda(36, 2), 6);
        due.is("3 beats 0", x.agenda(3, 2), 3);
        // In such a circle the last one voted on is left.
        int[][] rows = {{63, 3}, {603, 3}, {36, 6}, {306, 6}, {360, 0}, {630, 0}};
        for (int[] row : rows) {
            due.is("agenda(" + row[0] + ", 3)", x.agenda(row[0], 3), row[1]);
        }
    }

    /** "whether there is an AGENDA of all eight THINGS by which a THING is left (1, 0)" */
    private static void allEight() {
        StuckVanes x = new StuckVanes();
        for (int thing = 0; thing < 8; thing++) {
            due.is("nobody, " + thing, x.can(thing, 0), thing == 0 ? 1 : 0);
        }
        x.parish(0, 7, true, 0);
        for (int thing = 0; thing < 8; thing++) {
            due.is("one at 7, " + thing, x.can(thing, 0), thing == 7 ? 1 : 0);
        }
    }

    /** "how many it BEATS" (0 to 7) */
    private static void howManyItBeats() {
        StuckVanes x = one(7, false);
        due.is("all others", x.can(7, 1), 7);
        due.is("none", x.can(3, 1), 0);
        due.is("of as much, the less number", x.can(0, 1), 6);
        due.is("of as much, the greater", x.can(6, 1), 5);
    }

    /** can: "UNKNOWN" */
    private static void canOfNoThing() {
        StuckVanes x = one(0, true);
        for (int thing : new int[] {-1, 8, Integer.MIN_VALUE, Integer.MAX_VALUE}) {
            due.is("can(" + thing + ", 0)", x.can(thing, 0), StuckVanes.UNKNOWN);
            due.is("can(" + thing + ", 1)", x.can(thing, 1), StuckVanes.UNKNOWN);
        }
    }

    /** can: "whether (what = 0), how many (1). .. OUTSIDE" */
    private static void canWhat() {
        StuckVanes x = one(0, true);
        due.is("whether", x.can(0, 0), 1);
        due.is("how many", x.can(0, 1), 7);
        for (int what : new int[] {-1, 2, Integer.MIN_VALUE, Integer.MAX_VALUE}) {
            due.is("can(0, " + what + ")", x.can(0, what), StuckVanes.OUTSIDE);
        }
    }

    /** "WAYS of n (1 to 8)"; "ways below n"; ways: "OUTSIDE" */
    private static void waysOfSoMany() {
        StuckVanes x = one(0, true);
        x.parish(6, 0, true, 0);
        for (int n = 1; n <= 8; n++) {
            due.is("ways(" + n + ", 0)", x.ways(n, 0), n * n);
        }
        for (int n : new int[] {0, 9, -1, Integer.MIN_VALUE, Integer.MAX_VALUE}) {
            due.is("ways(" + n + ", 0)", x.ways(n, 0), StuckVanes.OUTSIDE);
        }
        due.is("the most", allSeven().ways(8, 0), 8 * 8 * 8 * 8 * 8 * 8 * 8);
        x.neighbours(0, 6, true);
        due.is("not alike", x.ways(1, 0), 0);
        due.is("not alike", x.ways(2, 0), 2);
        due.is("not alike", x.ways(8, 0), 56);
    }

    /** "all VANES that are there (stuck ones, too) could POINT" */
    private static void stuckOnesToo() {
        StuckVanes x = one(5, false);
        due.is("stuck at 5", x.ways(3, 0), 3);
        x.parish(1, 5, false, 0);
        x.neighbours(0, 1, true);
        due.is("stuck alike", x.ways(3, 0), 6);
        due.is("stuck alike", x.ways(1, 1), 2);
    }

    /** "no two NEIGHBOURS" of "all VANES that are there": one that is not there is no matter */
    private static void neighboursNotThere() {
        StuckVanes x = one(0, true);
        x.neighbours(0, 1, true);
        x.neighbours(1, 2, true);
        x.neighbours(0, 2, true);
        due.is("one alone", x.ways(1, 0), 1);
        due.is("one alone", x.ways(8, 1), 1);
        x.parish(2, 0, true, 0);
        due.is("two", x.ways(2, 0), 2);
        due.is("two", x.ways(8, 1), 2);
        x.parish(1, 0, true, 0);
        due.is("three", x.ways(2, 0), 0);
        due.is("three", x.ways(8, 1), 3);
    }

    /** "the fewest n by which there is one (0: nobody is there)" */
    private static void nobodyIsThere() {
        StuckVanes x = new StuckVanes();
        due.is("nobody", x.ways(1, 1), 0);
        x.neighbours(0, 1, true);
        due.is("nobody, though neighbours", x.ways(8, 1), 0);
        due.is("no vane, one way", x.ways(1, 0), 1);
        x.parish(0, 0, false, 0);
        due.is("one", x.ways(8, 1), 1);
    }

    /** "the fewest n by which there is one": 7 at most */
    private static void theFewest() {
        StuckVanes x = allSeven();
        due.is("no neighbours", x.ways(8, 1), 1);
        int fewest = 1;
        for (int a = 1; a < 7; a++) {
            for (int b = 0; b < a; b++) {
                x.neighbours(a, b, true);
            }
            fewest++;
            due.is("all up to " + a, x.ways(1, 1), fewest);
        }
        due.is("all seven", x.ways(7, 0), 5040);
        due.is("one too few", x.ways(6, 0), 0);
    }

    /** ways: "n is no matter, but as told" */
    private static void noMatterButAsTold() {
        StuckVanes x = one(0, true);
        x.parish(1, 0, true, 0);
        x.neighbours(0, 1, true);
        for (int n = 1; n <= 8; n++) {
            due.is("ways(" + n + ", 1)", x.ways(n, 1), 2);
        }
        due.is("below", x.ways(0, 1), StuckVanes.OUTSIDE);
        due.is("above", x.ways(9, 1), StuckVanes.OUTSIDE);
    }

    /** ways: "in how many (what = 0), the fewest n (1 ..). OUTSIDE" */
    private static void waysWhat() {
        StuckVanes x = one(0, true);
        due.is("in how many", x.ways(8, 0), 8);
        due.is("the fewest", x.ways(8, 1), 1);
        for (int what : new int[] {-1, 2, Integer.MIN_VALUE, Integer.MAX_VALUE}) {
            due.is("ways(8, " + what + ")", x.ways(8, what), StuckVanes.OUTSIDE);
        }
    }
}
