/**
 * The edges that the first paragraph of the document's Terms names: which refusal is answered, and that nothing
 * changes. Each method tests the sentence that stands over it.
 */
public final class EdgesOfRefusalsTest {
    private static final Due due = new Due();
    private static final long LOST_OUTSIDE = StuckVanes.LOST + StuckVanes.OUTSIDE;

    public static void main(String[] args) {
        unknownBeforeOutside();
        unknownBeforeNo();
        unknownBeforeFull();
        outsideBeforeNo();
        outsideBeforeState();
        outsideBeforeFull();
        theyChangeNothing();
        fractionsByPart();
        setsAreBits();
        theLastCall();
        due.end();
    }

    /** A is there, seven SIGHTS and 59 signs are told, image 1 is kept: one more of each is the last. */
    private static StuckVanes almostFull() {
        StuckVanes x = new StuckVanes();
        x.parish(0, 3, true, 4);
        x.neighbours(0, 6, true);
        x.weather(5, 6);
        x.creed(129);
        x.image(1);
        for (int i = 0; i < 7; i++) {
            x.seen(i % 2, true);
        }
        for (int i = 0; i < 59; i++) {
            x.say('.');
        }
        return x;
    }

    private static StuckVanes full() {
        StuckVanes x = almostFull();
        x.seen(1, true);
        x.say('w');
        return x;
    }

    /** "the first of these that fits: UNKNOWN .., OUTSIDE .." */
    private static void unknownBeforeOutside() {
        StuckVanes x = almostFull();
        due.is("parish, way", x.parish(7, 8, true, 0), StuckVanes.UNKNOWN);
        due.is("parish, tired", x.parish(-1, 0, true, 10), StuckVanes.UNKNOWN);
        due.is("behind, not there", x.behind(1, 3), StuckVanes.UNKNOWN);
        due.is("behind, no parish", x.behind(7, -1), StuckVanes.UNKNOWN);
        due.is("soon", x.soon(8, 8), StuckVanes.UNKNOWN);
        due.is("can", x.can(8, 2), StuckVanes.UNKNOWN);
    }

    /** "the first of these that fits: UNKNOWN .., NO .." */
    private static void unknownBeforeNo() {
        StuckVanes x = full();
        due.is("behind, not there, a fault", x.behind(1, 0), StuckVanes.UNKNOWN);
        due.is("behind, there, a fault", x.behind(0, 0), StuckVanes.NO);
        due.pad(x, "w5");
        due.is("behind, not there, an act that can not be", x.behind(1, 0), StuckVanes.UNKNOWN);
        due.is("behind, there, an act that can not be", x.behind(0, 0), StuckVanes.NO);
    }

    /** "the first of these that fits: UNKNOWN .., FULL .." */
    private static void unknownBeforeFull() {
        StuckVanes x = full();
        due.is("seen", x.seen(8, true), StuckVanes.UNKNOWN);
        due.is("seen", x.seen(-1, false), StuckVanes.UNKNOWN);
        due.is("seen, a thing", x.seen(7, false), StuckVanes.FULL);
    }

    /** "the first of these that fits: OUTSIDE .., NO .." */
    private static void outsideBeforeNo() {
        for (String text : new String[] {"w", "w5"}) {
            StuckVanes x = almostFull();
            due.pad(x, text);
            due.is("judge above, " + text, x.judge(2), StuckVanes.OUTSIDE);
            due.is("judge below, " + text, x.judge(-1), StuckVanes.OUTSIDE);
            due.is("behind above, " + text, x.behind(0, 3), StuckVanes.OUTSIDE);
            due.is("behind below, " + text, x.behind(0, -1), StuckVanes.OUTSIDE);
            due.is("then above, " + text, x.then(7), StuckVanes.OUTSIDE);
            due.is("then below, " + text, x.then(-1), StuckVanes.OUTSIDE);
            due.is("then within, " + text, x.then(0), StuckVanes.NO);
        }
    }

    /** "the first of these that fits: OUTSIDE .., STATE .." */
    private static void outsideBeforeState() {
        StuckVanes x = new StuckVanes();
        due.is("restore above", x.restore(2), StuckVanes.OUTSIDE);
        due.is("restore below", x.restore(-1), StuckVanes.OUTSIDE);
        due.is("restore within", x.restore(1), StuckVanes.STATE);
    }

    /** "the first of these that fits: OUTSIDE .., FULL .." */
    private static void outsideBeforeFull() {
        StuckVanes x = full();
        due.is("say below", x.say(32), StuckVanes.OUTSIDE);
        due.is("say above", x.say(127), StuckVanes.OUTSIDE);
        due.is("say within", x.say(33), StuckVanes.FULL);
    }

    /** "They change nothing." */
    private static void theyChangeNothing() {
        String almostFull = State.of(almostFull());
        for (int call = 0; call < 28; call++) {
            StuckVanes x = almostFull();
            due.is("refused call " + call, refused(x, call) < 0 ? 1 : 0, 1);
            due.is("unchanged by call " + call, State.of(x).equals(almostFull) ? 1 : 0, 1);
            due.is("room for one sign behind call " + call, x.say('.'), 60);
            due.is("room for one sight behind call " + call, x.seen(0, true), 8);
            due.is("image 1 behind call " + call, x.restore(1), 1);
            due.is("no sights in image 1 behind call " + call, x.told(6), 0);
            due.is("image 0 behind call " + call, x.restore(0), StuckVanes.STATE);
        }
        String full = State.of(full());
        StuckVanes x = full();
        due.is("say", x.say('0'), StuckVanes.FULL);
        due.is("seen", x.seen(4, false), StuckVanes.FULL);
        due.is("done", x.done(), StuckVanes.NO);
        due.is("unchanged when full", State.of(x).equals(full) ? 1 : 0, 1);
        due.is("signs", x.wipe(), 60);
        due.is("sights", x.forget(), 8);
    }

    private static long refused(StuckVanes x, int call) {
        switch (call) {
            case 0: return x.parish(7, 0, false, 0);
            case 1: return x.parish(0, 8, false, 0);
            case 2: return x.parish(0, 0, false, 10);
            case 3: return x.parish(1, 0, false, -1);
            case 4: return x.neighbours(0, 7, true);
            case 5: return x.neighbours(-1, 0, true);
            case 6: return x.neighbours(3, 3, true);
            case 7: return x.neighbours(6, 7, false);
            case 8: return x.weather(8, 0);
            case 9: return x.weather(0, 10);
            case 10: return x.creed(256);
            case 11: return x.say(127);
            case 12: return x.judge(2);
            case 13: return x.behind(1, 0);
            case 14: return x.behind(0, 3);
            case 15: return x.then(7);
            case 16: return x.agrees(8);
            case 17: return x.soon(8, 0);
            case 18: return x.soon(0, 8);
            case 19: return x.agenda(11, 2);
            case 20: return x.can(0, 2);
            case 21: return x.ways(9, 0);
            case 22: return x.seen(8, true) + x.ask(2);
            case 23: return x.drops(201, 0);
            case 24: return x.everywhere(9, 0, 0, 0);
            case 25: return x.year(0, 100, 0);
            case 26: return x.image(2) + x.restore(2);
            default: return x.restore(0) + x.told(7);
        }
    }

    /** "Fractions are told in lowest terms by part: 0 the upper, 1 the lower number; refused with LOST and the refusal." */
    private static void fractionsByPart() {
        StuckVanes x = new StuckVanes();
        due.is("6 of 16 by 2 is 7 of 8, upper", x.everywhere(2, 4, 0, 0), 7);
        due.is("lower", x.everywhere(2, 4, 0, 1), 8);
        due.is("nothing, upper", x.everywhere(8, 0, 0, 0), 0);
        due.is("nothing, lower", x.everywhere(8, 0, 0, 1), 1);
        due.is("nothing yet, upper", x.everywhere(8, 7, 0, 0), 0);
        due.is("nothing yet, lower", x.everywhere(8, 7, 0, 1), 1);
        due.is("a whole, upper", x.everywhere(1, 16, 0, 0), 1);
        due.is("a whole, lower", x.everywhere(1, 16, 0, 1), 1);
        due.is("part below", x.everywhere(2, 4, 0, -1), LOST_OUTSIDE);
        due.is("part above", x.everywhere(2, 4, 0, 2), LOST_OUTSIDE);
        due.is("part above, mean", x.everywhere(2, 4, 1, 2), LOST_OUTSIDE);
        due.is("lost and outside", LOST_OUTSIDE, -1000000000000000002L);
    }

    /** "Sets are bits." */
    private static void setsAreBits() {
        StuckVanes x = new StuckVanes();
        x.parish(0, 0, false, 0);
        due.is("the first parish", x.told(1), 1);
        x.parish(6, 0, false, 0);
        due.is("the last parish", x.told(1), 1 + 64);
        due.is("who agrees", x.agrees(0), 1 + 64);
        x.neighbours(0, 6, true);
        due.is("the last neighbour", x.told(10), 64);
        due.is("the first neighbour", x.told(16), 1);
        due.doneIs(x, "v0v7", 2);
        due.is("the first and the last thing", x.told(2), 1 + 128);
    }

    /** "An object is used for at most 512 calls after it has been made" */
    private static void theLastCall() {
        StuckVanes x = new StuckVanes();
        for (int call = 1; call < 512; call++) {
            x.weather(call % 8, call % 10);
        }
        due.is("the 512th call", x.weather(0, 0), 10 * (511 % 8) + 511 % 10);
    }
}
