/**
 * The edges of the PAD: what the document's Terms say of SIGNS and of THE FAULT, and promises 6 to 8. Each method
 * tests the sentence that stands over it.
 */
public final class EdgesOfSignsTest {
    private static final Due due = new Due();
    private static final String TEN_HOURS = "..........";

    public static void main(String[] args) {
        codes();
        sixtyAtMost();
        howManyThereWere();
        anEmptyPad();
        lettersOfParishes();
        behindALetter();
        behindTheWind();
        behindAVote();
        anHourIsOneSign();
        thePlaceFromNought();
        ifMoreMustCome();
        whatCanStandNeedNotBe();
        due.end();
    }

    private static void faultIs(String text, int place) {
        StuckVanes x = new StuckVanes();
        due.pad(x, text);
        due.is("fault() of " + text, x.fault(), place);
    }

    /** "SIGNS .., codes 33 to 126"; say: "OUTSIDE". */
    private static void codes() {
        StuckVanes x = new StuckVanes();
        for (int sign : new int[] {32, 127, 0, -1, 128, 255, 33 + 65536, Integer.MIN_VALUE, Integer.MAX_VALUE}) {
            due.is("say(" + sign + ")", x.say(sign), StuckVanes.OUTSIDE);
        }
        due.is("none of them stands", x.told(0), 0);
        due.is("the least", x.say(33), 1);
        due.is("the most", x.say(126), 2);
    }

    /** "60 SIGNS at most"; say: "A sign more: how many. .. FULL." */
    private static void sixtyAtMost() {
        StuckVanes x = new StuckVanes();
        for (int many = 1; many <= 60; many++) {
            due.is("how many", x.say('.'), many);
        }
        due.is("one too many", x.say('.'), StuckVanes.FULL);
        due.is("and again", x.say('w'), StuckVanes.FULL);
        due.is("sixty stand", x.told(0), 60);
        due.is("no fault", x.fault(), StuckVanes.NONE);
        due.is("all are done", x.done(), 60);
        due.is("room again", x.say('.'), 1);
    }

    /** "Signs go: how many there were." */
    private static void howManyThereWere() {
        StuckVanes x = new StuckVanes();
        due.is("none", x.wipe(), 0);
        x.say('w');
        due.is("one", x.wipe(), 1);
        due.is("none again", x.wipe(), 0);
        due.pad(x, TEN_HOURS + TEN_HOURS + TEN_HOURS + TEN_HOURS + TEN_HOURS + TEN_HOURS);
        due.is("full", x.wipe(), 60);
        due.is("empty", x.told(0), 0);
        due.is("nothing is done", x.told(5), 0);
    }

    /** "an empty PAD has none" */
    private static void anEmptyPad() {
        StuckVanes x = new StuckVanes();
        due.is("new", x.fault(), StuckVanes.NONE);
        due.pad(x, "Z");
        due.is("a fault", x.fault(), 0);
        x.wipe();
        due.is("wiped", x.fault(), StuckVanes.NONE);
        due.pad(x, "w1");
        x.done();
        due.is("done", x.fault(), StuckVanes.NONE);
    }

    /** "a PARISH's letter", "PARISHES 0 to 6 (A to G)" */
    private static void lettersOfParishes() {
        faultIs("A*", StuckVanes.NONE);
        faultIs("G*", StuckVanes.NONE);
        faultIs("@*", 0);
        faultIs("H*", 0);
        faultIs("a*", 0);
        faultIs("g*", 0);
    }

    /** "a PARISH's letter and: * .., # .., or a digit 0 to 7" */
    private static void behindALetter() {
        faultIs("A#", StuckVanes.NONE);
        faultIs("A0", StuckVanes.NONE);
        faultIs("G7", StuckVanes.NONE);
        for (String sign : new String[] {"/", "8", "9", "!", "\"", "$", ")", "+", ".", "A", "w", "v", "~"}) {
            faultIs("A" + sign, 1);
            faultIs("G" + sign + "*", 1);
        }
    }

    /** "w and a digit 0 to 7" */
    private static void behindTheWind() {
        faultIs("w0", StuckVanes.NONE);
        faultIs("w7", StuckVanes.NONE);
        for (String sign : new String[] {"/", "8", "9", "*", "#", ".", "A", "w", "v"}) {
            faultIs("w" + sign, 1);
        }
        faultIs("W0", 0);
        faultIs("x0", 0);
    }

    /** "v and a digit 0 to 7" */
    private static void behindAVote() {
        faultIs("v0", StuckVanes.NONE);
        faultIs("v7", StuckVanes.NONE);
        for (String sign : new String[] {"/", "8", "9", "*", "#", ".", "A", "w", "v"}) {
            faultIs("v" + sign, 1);
        }
        faultIs("V0", 0);
        faultIs("u0", 0);
    }

    /** ". (an hour ..)": nothing comes behind it. */
    private static void anHourIsOneSign() {
        faultIs(".", StuckVanes.NONE);
        faultIs("..", StuckVanes.NONE);
        faultIs(".0", 1);
        faultIs(".*", 1);
        faultIs("-", 0);
        faultIs("/", 0);
    }

    /** "the place (from 0 on) of the first sign that can not stand there" */
    private static void thePlaceFromNought() {
        String full = "A0B1C2D3E4F5G6w7v0" + TEN_HOURS + TEN_HOURS + TEN_HOURS + TEN_HOURS + ".";
        faultIs("0", 0);
        faultIs("00", 0);
        faultIs("w0!!", 2);
        faultIs("w!!", 1);
        faultIs("w8A", 1);
        faultIs(full + "!", 59);
        faultIs(full + ".", StuckVanes.NONE);
        faultIs("!" + full, 0);
    }

    /** "the number of signs, if more must come" */
    private static void ifMoreMustCome() {
        for (String head : new String[] {"A", "B", "C", "D", "E", "F", "G", "w", "v"}) {
            faultIs(head, 1);
            faultIs(".w0" + head, 4);
        }
        String fiftyNine = TEN_HOURS + TEN_HOURS + TEN_HOURS + TEN_HOURS + TEN_HOURS + ".........";
        faultIs(fiftyNine + "w", 60);
        faultIs("!A", 0);
    }

    /** THE FAULT is of signs alone: an ACT that can not be is none. */
    private static void whatCanStandNeedNotBe() {
        faultIs("A*", StuckVanes.NONE);
        faultIs("w0w0", StuckVanes.NONE);
        faultIs("v3", StuckVanes.NONE);
    }
}
