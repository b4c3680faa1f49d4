/** Refused calls, and calls that only ask, change nothing; no call throws for any numbers. */
public final class RefusalsTest {
    private static final Due due = new Due();
    private static final int[] NUMBERS = {Integer.MIN_VALUE, -1000000007, -8, -2, -1, 0, 1, 2, 3, 5, 6, 7, 8, 9, 10, 16,
        17, 33, 99, 100, 126, 127, 201, 255, 256, 10000, 76543210, Integer.MAX_VALUE};

    public static void main(String[] args) {
        for (String text : new String[] {"", ".w3v2", "w0w0", "A*", "Z", "B", "w"}) {
            for (boolean full : new boolean[] {false, true}) {
                String before = State.of(settled(text, full));
                for (int a : NUMBERS) {
                    for (int b : NUMBERS) {
                        askAll(settled(text, full), a, b, before);
                    }
                }
            }
        }
        due.end();
    }

    private static StuckVanes settled(String text, boolean full) {
        StuckVanes x = new StuckVanes();
        x.parish(1, 6, true, 4);
        x.parish(5, 2, false, 0);
        x.neighbours(1, 5, true);
        x.creed(170);
        for (int i = 0; full && i < 8; i++) {
            x.seen(i / 2, i < 6);
        }
        due.pad(x, text);
        return x;
    }

    private static void askAll(StuckVanes x, int a, int b, String before) {
        int answer = x.judge(a) | x.then(a) | x.agrees(a) | x.stuck(a) | x.ask(a) | x.told(a) | x.fault();
        answer |= x.behind(a, b) | x.soon(a, b) | x.agenda(a, b) | x.can(a, b) | x.ways(a, b) | x.drops(a, b);
        for (int c : new int[] {-1, 0, 1, 2, 3}) {
            answer |= x.year(a, b, c) | (int) x.everywhere(a, b, c, 0) | (int) x.everywhere(a, b, 0, c);
        }
        if (a < 0 || a > 255) {
            due.is("creed(" + a + ")", x.creed(a), StuckVanes.OUTSIDE);
            due.is("say(" + a + ")", x.say(a), StuckVanes.OUTSIDE);
            due.is("seen(" + a + ")", x.seen(a, true), StuckVanes.UNKNOWN);
            due.is("image(" + a + ")", x.image(a), StuckVanes.OUTSIDE);
            due.is("restore(" + a + ")", x.restore(a), StuckVanes.OUTSIDE);
            due.is("weather(" + a + ", " + b + ")", x.weather(a, b), StuckVanes.OUTSIDE);
            due.is("weather(" + b + ", " + a + ")", x.weather(b, a), StuckVanes.OUTSIDE);
            due.is("neighbours(" + a + ", " + b + ")", x.neighbours(a, b, true), StuckVanes.UNKNOWN);
            due.is("neighbours(" + b + ", " + a + ")", x.neighbours(b, a, false), StuckVanes.UNKNOWN);
            due.is("parish(" + a + ", ..)", x.parish(a, b, true, b), StuckVanes.UNKNOWN);
            due.is("parish(1, " + a + ", ..)", x.parish(1, a, false, b), StuckVanes.OUTSIDE);
            due.is("parish(1, ..)", x.parish(1, b, false, a), StuckVanes.OUTSIDE);
        }
        due.is("asked " + answer + " with " + a + ", " + b, before.equals(State.of(x)) ? 1 : 0, 1);
    }
}
