/** Promises 18 to 21: SIGHTS, STUCK, ASK. */
public final class GuessesTest {
    private static final Due due = new Due();

    public static void main(String[] args) {
        sights();
        stuckWithoutSights();
        byHand();
        everySight();
        due.end();
    }

    private static void sights() {
        StuckVanes x = new StuckVanes();
        due.is("nothing to forget", x.forget(), 0);
        for (int many = 1; many <= 8; many++) {
            due.is("one more", x.seen(0, true), many);
            due.is("told", x.told(6), many);
        }
        due.is("full", x.seen(0, true), StuckVanes.FULL);
        due.is("full", x.seen(1, false), StuckVanes.FULL);
        due.is("unknown first", x.seen(8, true), StuckVanes.UNKNOWN);
        due.is("unknown", x.seen(-1, true), StuckVanes.UNKNOWN);
        due.is("nothing changed", x.stuck(-1), 16);
        due.is("forget", x.forget(), 8);
        due.is("forgot", x.told(6), 0);
        due.is("all again", x.stuck(-1), 32);
        due.is("anew", x.seen(7, false), 1);
        due.is("not agreed", x.stuck(-1), 16);
        due.is("forget", x.forget(), 1);
        due.is("all again", x.stuck(-1), 32);
    }

    private static void stuckWithoutSights() {
        StuckVanes x = new StuckVanes();
        for (int i = 0; i < 32; i++) {
            due.is("stuck(" + i + ")", x.stuck(i), 10 * (i / 4) + i % 4);
        }
        due.is("beyond", x.stuck(32), StuckVanes.NONE);
        due.is("beyond", x.stuck(Integer.MAX_VALUE), StuckVanes.NONE);
        due.is("below", x.stuck(-2), StuckVanes.NONE);
        due.is("below", x.stuck(Integer.MIN_VALUE), StuckVanes.NONE);
        due.is("ask", x.ask(0), 0);
        due.is("ask", x.ask(1), 16);
        due.is("ask below", x.ask(-1), StuckVanes.OUTSIDE);
        due.is("ask above", x.ask(2), StuckVanes.OUTSIDE);
    }

    private static void byHand() {
        StuckVanes x = new StuckVanes();
        x.seen(2, true);
        x.seen(3, false);
        // 2 is agreed to and 3 is not: 20, 11, 2 (0 by 2) and 73 (7 by 3), by as much from the west.
        int[] fit = {2, 11, 20, 73};
        due.is("how many", x.stuck(-1), 4);
        for (int i = 0; i < fit.length; i++) {
            due.is("stuck(" + i + ")", x.stuck(i), fit[i]);
        }
        due.is("beyond", x.stuck(4), StuckVanes.NONE);
        // 0 is agreed to by 02, 11, 73; 1 by 02, 11, 73; 4 by 73; 5 by 73; 6 by 02, 73; 7 by 02, 73.
        due.is("ask", x.ask(0), 6);
        due.is("ask", x.ask(1), 2);
        x.seen(6, false);
        due.is("how many", x.stuck(-1), 2);
        due.is("stuck(0)", x.stuck(0), 11);
        due.is("stuck(1)", x.stuck(1), 20);
        due.is("ask", x.ask(0), 0);
        due.is("ask", x.ask(1), 1);
        x.seen(0, false);
        due.is("how many", x.stuck(-1), 1);
        due.is("stuck(0)", x.stuck(0), 20);
        due.is("the least of as much", x.ask(0), 0);
        due.is("one is left", x.ask(1), 1);
        x.seen(2, false);
        due.is("nothing fits", x.stuck(-1), 0);
        due.is("nothing fits", x.stuck(0), StuckVanes.NONE);
        due.is("nothing fits", x.ask(0), StuckVanes.NONE);
        due.is("nothing fits", x.ask(1), StuckVanes.NONE);
        due.is("outside first", x.ask(2), StuckVanes.OUTSIDE);
    }

    /** Each SIGHT or two of them, against all that could fit tried one by one. */
    private static void everySight() {
        for (int sight = 0; sight < 16 * 16; sight++) {
            StuckVanes x = new StuckVanes();
            int[] things = {sight % 8, sight / 16 % 8};
            boolean[] agreed = {(sight & 8) != 0, (sight & 128) != 0};
            x.seen(things[0], agreed[0]);
            x.seen(things[1], agreed[1]);
            int fitting = 0;
            int[] yes = new int[8];
            for (int d = 0; d < 8; d++) {
                for (int h = 0; h < 4; h++) {
                    if ((apart(d, things[0]) <= h) == agreed[0] && (apart(d, things[1]) <= h) == agreed[1]) {
                        due.is("stuck", x.stuck(fitting), 10 * d + h);
                        fitting++;
                        for (int thing = 0; thing < 8; thing++) {
                            yes[thing] += apart(d, thing) <= h ? 1 : 0;
                        }
                    }
                }
            }
            due.is("stuck(-1)", x.stuck(-1), fitting);
            due.is("beyond", x.stuck(fitting), StuckVanes.NONE);
            int best = 0;
            for (int thing = 1; thing < 8; thing++) {
                best = Math.max(yes[thing], fitting - yes[thing]) < Math.max(yes[best], fitting - yes[best]) ? thing : best;
            }
            due.is("ask(0)", x.ask(0), fitting == 0 ? StuckVanes.NONE : best);
            due.is("ask(1)", x.ask(1), fitting == 0 ? StuckVanes.NONE : Math.max(yes[best], fitting - yes[best]));
        }
    }

    private static int apart(int a, int b) {
        return Math.min(Math.abs(a - b), 8 - Math.abs(a - b));
    }
}
