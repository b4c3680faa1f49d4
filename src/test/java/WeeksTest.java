/** Promises 9 to 13: WEEKS judged, done, what is behind them, and who agrees. */
public final class WeeksTest {
    private static final Due due = new Due();

    public static void main(String[] args) {
        why();
        theFirstActThatCanNotBe();
        theLastHour();
        hours();
        tiredWithinBounds();
        done();
        votes();
        firstHeld();
        behind();
        then();
        agrees();
        due.end();
    }

    /** A is stuck at 0, B is free at 2; the others are not there. */
    private static StuckVanes twoParishes() {
        StuckVanes x = new StuckVanes();
        x.parish(0, 0, false, 0);
        x.parish(1, 2, true, 3);
        return x;
    }

    private static void why() {
        StuckVanes x = twoParishes();
        due.judged(x, "", StuckVanes.NONE, StuckVanes.NONE);
        due.judged(x, "C*", 0, 1);
        due.judged(x, "C#", 0, 1);
        due.judged(x, "C0", 0, 1);
        due.judged(x, "B*", 0, 2);
        due.judged(x, "A#", 0, 2);
        due.judged(x, "A1", 0, 2);
        due.judged(x, "A0", 0, 2);
        due.judged(x, "B2", 0, 3);
        due.judged(x, "w0", 0, 5);
        due.judged(x, "A*", StuckVanes.NONE, StuckVanes.NONE);
        due.judged(x, "B#", StuckVanes.NONE, StuckVanes.NONE);
        due.judged(x, "B3", StuckVanes.NONE, StuckVanes.NONE);
        due.judged(x, "w1", StuckVanes.NONE, StuckVanes.NONE);
        due.judged(x, "v0", StuckVanes.NONE, StuckVanes.NONE);
        due.judged(new StuckVanes(), "v0", 0, 6);
        due.judged(new StuckVanes(), ".", StuckVanes.NONE, StuckVanes.NONE);
        x.weather(0, 0);
        due.judged(x, "A*", 0, 4);
        due.judged(x, "B*", 0, 2);
        due.judged(x, "C*", 0, 1);
        x.weather(0, 1);
        due.judged(x, "A*B#B*", 2, 4);
        x.weather(0, 9);
        due.judged(x, "A*A#A*A#A*A#A*A#A*A#A*A#A*A#A*A#A*A#A*", 18, 4);
        due.is("judge below", x.judge(-1), StuckVanes.OUTSIDE);
        due.is("judge above", x.judge(2), StuckVanes.OUTSIDE);
        due.pad(x, "A");
        due.is("outside first", x.judge(2), StuckVanes.OUTSIDE);
        due.is("a fault", x.judge(0), StuckVanes.NO);
        due.is("a fault", x.judge(1), StuckVanes.NO);
    }

    private static void theFirstActThatCanNotBe() {
        StuckVanes x = twoParishes();
        due.judged(x, "w1w1C*", 1, 5);
        due.judged(x, "...B0", 3, 3);
        due.judged(x, "A*A#A#", 2, 2);
        due.judged(x, "B#B4", 1, 2);
        due.judged(x, "B4B5B5", 2, 3);
        due.judged(x, "w1w0w0", 2, 5);
    }

    private static void theLastHour() {
        StuckVanes x = twoParishes();
        String tenHours = "..........";
        String fifty = tenHours + tenHours + tenHours + tenHours + tenHours;
        due.doneIs(x, fifty, 50);
        due.judged(x, fifty, 49, 7);
        due.doneIs(x, fifty.substring(1), 49);
        due.is("hour", x.told(5), 99);
        due.judged(x, ".", 0, 7);
        due.judged(x, "w1.", 1, 7);
        due.judged(x, "w1v1", StuckVanes.NONE, StuckVanes.NONE);
        due.is("soon goes beyond", x.soon(4, 4), StuckVanes.NONE);
        x.parish(0, 0, true, 0);
        due.is("soon goes beyond", x.soon(4, 4), 3);
    }

    private static void hours() {
        for (int wind = 0; wind < 8; wind++) {
            for (int way = 0; way < 8; way++) {
                StuckVanes x = new StuckVanes();
                x.weather(wind, 5);
                x.parish(3, way, true, 5);
                x.parish(4, way, false, 5);
                due.doneIs(x, ".", 1);
                int eastwards = (wind - way + 8) % 8;
                int step = eastwards == 0 ? 0 : eastwards <= 4 ? 1 : 7;
                due.is("turned " + way + " to " + wind, x.told(23), (way + step) % 8);
                due.is("tired " + way + " to " + wind, x.told(33), step == 0 ? 4 : 6);
                due.is("stuck", x.told(24), way);
                due.is("stuck rests", x.told(34), 4);
                due.is("wind", x.told(3), wind);
                due.is("oil", x.told(4), 5);
                due.is("hour", x.told(5), 1);
            }
        }
    }

    private static void tiredWithinBounds() {
        StuckVanes x = new StuckVanes();
        x.parish(0, 4, true, 8);
        x.parish(1, 4, false, 1);
        due.doneIs(x, "...", 3);
        due.is("9 at most", x.told(30), 9);
        due.is("0 at least", x.told(31), 0);
        due.is("points", x.told(20), 7);
        due.doneIs(x, "..", 2);
        due.is("there, it rests", x.told(30), 8);
        due.is("points", x.told(20), 0);
    }

    private static void done() {
        StuckVanes x = twoParishes();
        due.doneIs(x, "", 0);
        due.doneIs(x, "A*B#A5w4.v4v5", 7);
        due.is("empty then", x.told(0), 0);
        due.is("A points", x.told(20), 4);
        due.is("A tired", x.told(30), 1);
        due.is("A free", x.told(40), 1);
        due.is("B points", x.told(21), 2);
        due.is("B tired", x.told(31), 2);
        due.is("B stuck", x.told(41), 0);
        due.is("held", x.told(2), 0);
        due.is("wind", x.told(3), 4);
        due.is("oil", x.told(4), 4);
        due.is("hour", x.told(5), 1);
        due.pad(x, "B*A");
        due.is("a fault", x.done(), StuckVanes.NO);
        due.is("the pad stays", x.told(0), 3);
        due.pad(x, "B*A*");
        due.is("can not be", x.done(), StuckVanes.NO);
        due.is("the pad stays", x.told(0), 4);
        due.is("nothing is done", x.told(41), 0);
        due.is("nothing is done", x.told(4), 4);
        due.is("judged anew", x.judge(0), 1);
    }

    private static void votes() {
        StuckVanes x = new StuckVanes();
        x.parish(0, 0, false, 0);
        x.parish(6, 4, false, 0);
        due.doneIs(x, "v0", 1);
        due.is("half is not enough", x.told(2), 0);
        x.parish(5, 1, false, 0);
        due.doneIs(x, "v0v1", 2);
        due.is("two of three", x.told(2), 3);
        due.doneIs(x, "v2", 1);
        due.is("one of three", x.told(2), 3);
        x.creed(255);
        due.doneIs(x, "v2v7v4v5v3v6", 6);
        due.is("else not held", x.told(2), 3);
        due.doneIs(x, "v0", 1);
        due.is("held still", x.told(2), 3);
    }

    private static void firstHeld() {
        StuckVanes x = twoParishes();
        x.creed(1 << 1);
        due.pad(x, "v1w3v4");
        due.is("held already", x.then(5), StuckVanes.NONE);
        due.is("held already", x.then(6), StuckVanes.NONE);
        due.pad(x, "v1B1v1v0v2");
        due.is("first held", x.then(5), 3);
        due.is("first held", x.then(6), 0);
        due.is("all held", x.then(0), 3);
        due.pad(x, "B4v1B2v1");
        due.is("let go and held again", x.then(5), 3);
        due.is("let go and held again", x.then(6), 1);
        due.pad(x, "B4v1w2");
        due.is("let go", x.then(0), 0);
        due.is("let go", x.then(5), StuckVanes.NONE);
    }

    private static void behind() {
        StuckVanes x = twoParishes();
        due.pad(x, "A*w4A2B#..");
        int[][] want = {{4, 2, 1}, {2, 1, 0}};
        for (int parish = 0; parish < 2; parish++) {
            for (int what = 0; what < 3; what++) {
                due.is("behind(" + parish + ", " + what + ")", x.behind(parish, what), want[parish][what]);
            }
        }
        due.is("nothing is done", x.told(20), 0);
        due.is("hour", x.told(5), 0);
        due.is("pad", x.told(0), 10);
        due.is("not there", x.behind(2, 0), StuckVanes.UNKNOWN);
        due.is("no parish", x.behind(7, 0), StuckVanes.UNKNOWN);
        due.is("no parish", x.behind(-1, 0), StuckVanes.UNKNOWN);
        due.is("unknown first", x.behind(2, 3), StuckVanes.UNKNOWN);
        due.is("outside below", x.behind(0, -1), StuckVanes.OUTSIDE);
        due.is("outside above", x.behind(0, 3), StuckVanes.OUTSIDE);
        due.pad(x, "w0");
        due.is("can not be", x.behind(0, 0), StuckVanes.NO);
        due.is("outside first", x.behind(0, 3), StuckVanes.OUTSIDE);
        due.is("unknown first", x.behind(2, 0), StuckVanes.UNKNOWN);
        due.pad(x, "w");
        due.is("a fault", x.behind(0, 2), StuckVanes.NO);
    }

    private static void then() {
        StuckVanes x = twoParishes();
        x.creed(4);
        due.pad(x, "A*w7v0v1...");
        int[] want = {4 + 2, 4, 7, 3, 1, 3, 1};
        for (int what = 0; what < want.length; what++) {
            due.is("then(" + what + ")", x.then(what), want[what]);
        }
        due.is("below", x.then(-1), StuckVanes.OUTSIDE);
        due.is("above", x.then(7), StuckVanes.OUTSIDE);
        due.pad(x, "w0");
        due.is("outside first", x.then(7), StuckVanes.OUTSIDE);
        for (int what = 0; what < 7; what++) {
            due.is("can not be", x.then(what), StuckVanes.NO);
        }
        due.pad(x, "Z");
        due.is("a fault", x.then(0), StuckVanes.NO);
        x.wipe();
        x.parish(4, 0, false, 9);
        x.parish(3, 0, false, 9);
        due.is("the least of as much", x.then(4), 3);
        x.parish(0, 0, false, 9);
        due.is("the least of as much", x.then(4), 0);
        StuckVanes nobody = new StuckVanes();
        due.pad(nobody, "w3..");
        int[] empty = {0, 5, 3, 2, StuckVanes.NONE, StuckVanes.NONE, StuckVanes.NONE};
        for (int what = 0; what < empty.length; what++) {
            due.is("nobody then(" + what + ")", nobody.then(what), empty[what]);
        }
        nobody.parish(5, 0, false, 0);
        due.is("not tired, yet most", nobody.then(4), 5);
    }

    private static void agrees() {
        StuckVanes x = new StuckVanes();
        due.is("nobody", x.agrees(0), 0);
        x.parish(0, 0, false, 0);
        x.parish(3, 3, true, 0);
        x.parish(6, 7, true, 0);
        int[] want = {1 + 64, 1, 8, 8, 8, 0, 64, 1 + 64};
        for (int thing = 0; thing < 8; thing++) {
            due.is("agrees(" + thing + ")", x.agrees(thing), want[thing]);
        }
        due.is("below", x.agrees(-1), StuckVanes.UNKNOWN);
        due.is("above", x.agrees(8), StuckVanes.UNKNOWN);
    }
}
