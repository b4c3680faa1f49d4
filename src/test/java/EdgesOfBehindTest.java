/** The edges of part 2: promises 9 to 12. Each method tests the sentence that stands over it. */
public final class EdgesOfBehindTest {
    private static final Due due = new Due();

    public static void main(String[] args) {
        fromNoughtOn();
        nothingToJudge();
        judgeWhat();
        judgeWithAFault();
        emptyThen();
        actsDone();
        notDoneWithAFault();
        notDoneIfAnActCanNotBe();
        behindAnEmptyPad();
        likewiseNotBeingDone();
        behindNotThere();
        behindWhat();
        behindAsOfDone();
        theLeastOfAsMuch();
        nobodyIsThere();
        heldThatWasNot();
        noActHolds();
        thenWhat();
        thenLikewise();
        due.end();
    }

    private static StuckVanes twoParishes() {
        StuckVanes x = new StuckVanes();
        x.parish(0, 0, false, 2);
        x.parish(6, 4, true, 2);
        return x;
    }

    /** "of WEEKS the first ACT (from 0 on) that can not be, and why" */
    private static void fromNoughtOn() {
        StuckVanes x = twoParishes();
        due.judged(x, "w0", 0, 5);
        due.judged(x, "w0B*", 0, 5);
        due.judged(x, "w1w1B*", 1, 5);
        StringBuilder hours = new StringBuilder();
        for (int hour = 0; hour < 58; hour++) {
            hours.append('.');
        }
        due.judged(x, hours + "w0", 58, 5);
        due.judged(x, hours.substring(0, 56) + "w1A#", 57, 2);
    }

    /** judge: "NONE" */
    private static void nothingToJudge() {
        StuckVanes x = twoParishes();
        due.judged(x, "", StuckVanes.NONE, StuckVanes.NONE);
        due.judged(x, "w1", StuckVanes.NONE, StuckVanes.NONE);
        due.judged(new StuckVanes(), "", StuckVanes.NONE, StuckVanes.NONE);
    }

    /** judge: "the ACT (what = 0), why (1) .. OUTSIDE" */
    private static void judgeWhat() {
        StuckVanes x = twoParishes();
        due.pad(x, ".A#");
        due.is("the act", x.judge(0), 1);
        due.is("why", x.judge(1), 2);
        for (int what : new int[] {-1, 2, Integer.MIN_VALUE, Integer.MAX_VALUE}) {
            due.is("judge(" + what + ")", x.judge(what), StuckVanes.OUTSIDE);
        }
    }

    /** judge: "NO: there is a FAULT." */
    private static void judgeWithAFault() {
        StuckVanes x = twoParishes();
        due.judged(x, "w", StuckVanes.NO, StuckVanes.NO);
        due.judged(x, "w1!", StuckVanes.NO, StuckVanes.NO);
        due.judged(x, "w0A", StuckVanes.NO, StuckVanes.NO);
    }

    /** "WEEKS on the PAD are DONE (it is empty then)" */
    private static void emptyThen() {
        StuckVanes x = twoParishes();
        due.doneIs(x, "w1", 1);
        due.is("empty", x.told(0), 0);
        due.is("not once more", x.done(), 0);
        due.is("the next sign is the first", x.say('.'), 1);
    }

    /** done: "ACTS" */
    private static void actsDone() {
        StuckVanes x = twoParishes();
        due.is("none", x.done(), 0);
        due.doneIs(x, ".", 1);
        due.doneIs(x, "A*w3", 2);
        StringBuilder winds = new StringBuilder();
        for (int wind = 0; wind < 30; wind++) {
            winds.append("w").append(wind % 2);
        }
        due.doneIs(x, winds.toString(), 30);
        due.is("the last wind", x.told(3), 1);
    }

    /** done: "NO: there is a FAULT" */
    private static void notDoneWithAFault() {
        StuckVanes x = twoParishes();
        due.pad(x, "w1A*.v");
        due.is("more must come", x.done(), StuckVanes.NO);
        due.is("the wind is as it was", x.told(3), 0);
        due.is("the pad, too", x.told(0), 6);
        due.is("it comes", x.say('0'), 7);
        due.is("done", x.done(), 4);
    }

    /** done: "NO: .. an ACT that can not be" */
    private static void notDoneIfAnActCanNotBe() {
        StuckVanes x = twoParishes();
        due.pad(x, "w1A*.v0B*");
        String before = State.of(x);
        due.is("the last act", x.done(), StuckVanes.NO);
        due.is("all as it was", State.of(x).equals(before) ? 1 : 0, 1);
        x.parish(1, 0, false, 0);
        due.is("done", x.done(), 5);
    }

    /** BEHIND WEEKS without an ACT all is as it is. */
    private static void behindAnEmptyPad() {
        StuckVanes x = twoParishes();
        x.weather(3, 4);
        x.creed(5);
        int[] ofG = {4, 2, 1};
        int[] ofAll = {5, 4, 3, 0, 0, StuckVanes.NONE, StuckVanes.NONE};
        for (int what = 0; what < ofG.length; what++) {
            due.is("behind(6, " + what + ")", x.behind(6, what), ofG[what]);
        }
        for (int what = 0; what < ofAll.length; what++) {
            due.is("then(" + what + ")", x.then(what), ofAll[what]);
        }
    }

    /** "BEHIND, likewise, not being DONE" */
    private static void likewiseNotBeingDone() {
        StuckVanes x = twoParishes();
        due.pad(x, "A*w3v4..");
        String before = State.of(x);
        due.is("points", x.behind(0, 0), 2);
        due.is("tired", x.behind(0, 1), 4);
        due.is("free", x.behind(0, 2), 1);
        due.is("hour", x.then(3), 2);
        due.is("again", x.behind(0, 0), 2);
        due.is("all as it was", State.of(x).equals(before) ? 1 : 0, 1);
    }

    /** behind: "UNKNOWN: it is not there" */
    private static void behindNotThere() {
        StuckVanes x = twoParishes();
        for (int parish : new int[] {1, 5, -1, 7, Integer.MIN_VALUE, Integer.MAX_VALUE}) {
            due.is("behind(" + parish + ", 0)", x.behind(parish, 0), StuckVanes.UNKNOWN);
        }
        due.is("the first", x.behind(0, 0), 0);
        due.is("the last", x.behind(6, 0), 4);
    }

    /** behind: "where it POINTS (what = 0), TIRED (1), FREE (2) .. OUTSIDE" */
    private static void behindWhat() {
        StuckVanes x = twoParishes();
        due.is("points", x.behind(6, 0), 4);
        due.is("tired", x.behind(6, 1), 2);
        due.is("free", x.behind(6, 2), 1);
        due.is("stuck", x.behind(0, 2), 0);
        for (int what : new int[] {-1, 3, Integer.MIN_VALUE, Integer.MAX_VALUE}) {
            due.is("behind(6, " + what + ")", x.behind(6, what), StuckVanes.OUTSIDE);
        }
    }

    /** behind: "NO, as of done()" */
    private static void behindAsOfDone() {
        for (String text : new String[] {"w", "w1!", "w1w1", "A*A*", "B0"}) {
            StuckVanes x = twoParishes();
            due.pad(x, text);
            for (int what = 0; what < 3; what++) {
                due.is("behind(0, " + what + ") " + text, x.behind(0, what), StuckVanes.NO);
            }
        }
    }

    /** "who is most TIRED (the least of as much ..)" */
    private static void theLeastOfAsMuch() {
        StuckVanes x = twoParishes();
        due.is("as much", x.then(4), 0);
        x.parish(6, 4, true, 3);
        due.is("more", x.then(4), 6);
        x.parish(3, 4, true, 3);
        due.is("as much again", x.then(4), 3);
        due.pad(x, "D#.");
        due.is("less then", x.then(4), 6);
        StuckVanes rested = new StuckVanes();
        rested.parish(5, 0, false, 0);
        due.is("not tired, yet most", rested.then(4), 5);
        rested.parish(2, 0, false, 0);
        due.is("not tired, the least", rested.then(4), 2);
    }

    /** "NONE: nobody is there" */
    private static void nobodyIsThere() {
        StuckVanes x = new StuckVanes();
        due.is("empty", x.then(4), StuckVanes.NONE);
        due.pad(x, "w1..");
        due.is("hours", x.then(4), StuckVanes.NONE);
        due.is("hour", x.then(3), 2);
    }

    /** "the first ACT by which a THING is HELD that was not, which" */
    private static void heldThatWasNot() {
        StuckVanes x = twoParishes();
        x.parish(1, 0, false, 0);
        x.creed(1);
        due.pad(x, "v0.v7v1");
        due.is("held already does not count", x.then(5), 2);
        due.is("which", x.then(6), 7);
        due.pad(x, "v1");
        due.is("act 0", x.then(5), 0);
        x.creed(0);
        due.pad(x, "v0");
        due.is("act 0, thing 0", x.then(5), 0);
        due.is("thing 0", x.then(6), 0);
        due.pad(x, "v4v7");
        due.is("not carried does not count", x.then(5), 1);
        due.is("which", x.then(6), 7);
    }

    /** "which (NONE)" */
    private static void noActHolds() {
        StuckVanes x = twoParishes();
        x.creed(255);
        for (String text : new String[] {"", "w1.", "v0", "v0v1v2"}) {
            due.pad(x, text);
            due.is("then(5) of " + text, x.then(5), StuckVanes.NONE);
            due.is("then(6) of " + text, x.then(6), StuckVanes.NONE);
        }
    }

    /** then: "HELD (what = 0), OIL (1), the WIND (2), the hour (3), .. the ACT (5 ..), the THING (6 ..). OUTSIDE" */
    private static void thenWhat() {
        StuckVanes x = twoParishes();
        x.parish(1, 4, true, 9);
        due.pad(x, "A*w7.v5");
        int[] want = {32, 4, 7, 1, 1, 3, 5};
        for (int what = 0; what < want.length; what++) {
            due.is("then(" + what + ")", x.then(what), want[what]);
        }
        for (int what : new int[] {-1, 7, Integer.MIN_VALUE, Integer.MAX_VALUE}) {
            due.is("then(" + what + ")", x.then(what), StuckVanes.OUTSIDE);
        }
    }

    /** then: "NO, likewise" */
    private static void thenLikewise() {
        for (String text : new String[] {"w", "w1!", "w1w1", "A*A*", "B0"}) {
            StuckVanes x = twoParishes();
            due.pad(x, text);
            for (int what = 0; what < 7; what++) {
                due.is("then(" + what + ") " + text, x.then(what), StuckVanes.NO);
            }
        }
    }
}
