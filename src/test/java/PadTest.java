/** Promises 6 to 8: signs, and THE FAULT. */
public final class PadTest {
    private static final Due due = new Due();

    public static void main(String[] args) {
        signs();
        faults();
        everyPairOfSigns();
        due.end();
    }

    private static void signs() {
        StuckVanes x = new StuckVanes();
        due.is("nothing to wipe", x.wipe(), 0);
        due.is("least", x.say(33), 1);
        due.is("most", x.say(126), 2);
        due.is("below", x.say(32), StuckVanes.OUTSIDE);
        due.is("above", x.say(127), StuckVanes.OUTSIDE);
        due.is("far below", x.say(Integer.MIN_VALUE), StuckVanes.OUTSIDE);
        due.is("far above", x.say(46 + 256), StuckVanes.OUTSIDE);
        due.is("told", x.told(0), 2);
        for (int many = 3; many <= 60; many++) {
            due.is("more", x.say('.'), many);
        }
        due.is("full", x.say('.'), StuckVanes.FULL);
        due.is("outside first", x.say(32), StuckVanes.OUTSIDE);
        due.is("wipe", x.wipe(), 60);
        due.is("wiped", x.told(0), 0);
        due.is("anew", x.say('.'), 1);
        due.is("no fault", x.fault(), StuckVanes.NONE);
    }

    private static void faults() {
        fault("", StuckVanes.NONE);
        fault(".", StuckVanes.NONE);
        fault("A*A#A0w7v7.G7", StuckVanes.NONE);
        fault("A", 1);
        fault("w", 1);
        fault("v", 1);
        fault("..G", 3);
        fault("A*B", 3);
        fault("A.", 1);
        fault("AA", 1);
        fault("A8", 1);
        fault("w8", 1);
        fault("v8", 1);
        fault("w*", 1);
        fault("v#", 1);
        fault("H0", 0);
        fault("@0", 0);
        fault("0", 0);
        fault("a0", 0);
        fault(".*", 1);
        fault("w0!.", 2);
        fault("!A", 0);
        fault("w0w0w0wA!", 7);
        StringBuilder full = new StringBuilder();
        for (int i = 0; i < 30; i++) {
            full.append("w").append(i % 8);
        }
        fault(full.toString(), StuckVanes.NONE);
        fault(full.substring(0, 59) + "w", 59);
        fault("." + full.substring(0, 59), 60);
    }

    private static void fault(String text, int place) {
        StuckVanes x = new StuckVanes();
        due.pad(x, text);
        due.is("fault() of " + text, x.fault(), place);
        due.is("it stays", x.told(0), text.length());
        due.is("judge(0) of " + text, x.judge(0) == StuckVanes.NO ? 1 : 0, place == StuckVanes.NONE ? 0 : 1);
    }

    private static void everyPairOfSigns() {
        for (char first = 33; first <= 126; first++) {
            StuckVanes x = new StuckVanes();
            boolean parish = "ABCDEFG".indexOf(first) >= 0;
            boolean number = first == 'w' || first == 'v';
            x.say(first);
            due.is("fault of " + first, x.fault(), first == '.' ? StuckVanes.NONE : parish || number ? 1 : 0);
            for (char second = 33; second <= 126 && (parish || number); second++) {
                x.wipe();
                x.say(first);
                x.say(second);
                boolean stands = (parish ? "*#01234567" : "01234567").indexOf(second) >= 0;
                due.is("fault of " + first + second, x.fault(), stands ? StuckVanes.NONE : 1);
            }
        }
    }
}
