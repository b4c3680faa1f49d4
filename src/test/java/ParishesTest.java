/** Promises 1 to 5 and 27: a new object, PARISHES, NEIGHBOURS, the WIND, OIL, THINGS that are HELD. */
public final class ParishesTest {
    private static final Due due = new Due();

    public static void main(String[] args) {
        aNewObject();
        parishes();
        parishesAnew();
        neighbours();
        weather();
        creed();
        told();
        due.end();
    }

    private static void aNewObject() {
        StuckVanes x = new StuckVanes();
        int[] all = {0, 0, 0, 0, 5, 0, 0};
        for (int what = 0; what < all.length; what++) {
            due.is("new told(" + what + ")", x.told(what), all[what]);
        }
        for (int parish = 0; parish < 7; parish++) {
            due.is("new neighbours", x.told(10 + parish), 0);
            for (int what = 20; what <= 40; what += 10) {
                due.is("new parish not there", x.told(what + parish), StuckVanes.OUTSIDE);
            }
        }
        due.is("new image 0", x.restore(0), StuckVanes.STATE);
        due.is("new image 1", x.restore(1), StuckVanes.STATE);
        due.is("new fault", x.fault(), StuckVanes.NONE);
        due.is("new sights", x.stuck(-1), 32);
        StuckVanes y = new StuckVanes();
        y.parish(0, 0, true, 0);
        due.is("objects are their own", x.told(1), 0);
    }

    private static void parishes() {
        StuckVanes x = new StuckVanes();
        due.is("first", x.parish(6, 7, true, 9), 1);
        due.is("second", x.parish(0, 0, false, 0), 2);
        due.is("bits", x.told(1), 0b1000001);
        due.is("points", x.told(26), 7);
        due.is("tired", x.told(36), 9);
        due.is("free", x.told(46), 1);
        due.is("points", x.told(20), 0);
        due.is("tired", x.told(30), 0);
        due.is("stuck", x.told(40), 0);
        for (int parish = 1; parish < 6; parish++) {
            due.is("one more", x.parish(parish, parish, parish % 2 == 0, 9 - parish), parish + 2);
        }
        due.is("all", x.told(1), 127);
        for (int parish = 1; parish < 6; parish++) {
            due.is("points", x.told(20 + parish), parish);
            due.is("tired", x.told(30 + parish), 9 - parish);
            due.is("free", x.told(40 + parish), parish % 2 == 0 ? 1 : 0);
        }
        due.is("below", x.parish(-1, 0, true, 0), StuckVanes.UNKNOWN);
        due.is("above", x.parish(7, 0, true, 0), StuckVanes.UNKNOWN);
        due.is("unknown first", x.parish(7, 8, true, 10), StuckVanes.UNKNOWN);
        due.is("way below", x.parish(0, -1, true, 0), StuckVanes.OUTSIDE);
        due.is("way above", x.parish(0, 8, true, 0), StuckVanes.OUTSIDE);
        due.is("tired below", x.parish(0, 0, true, -1), StuckVanes.OUTSIDE);
        due.is("tired above", x.parish(0, 0, true, 10), StuckVanes.OUTSIDE);
    }

    private static void parishesAnew() {
        StuckVanes x = new StuckVanes();
        x.parish(2, 3, true, 4);
        x.neighbours(2, 5, true);
        due.is("anew", x.parish(2, 6, false, 1), 1);
        due.is("points anew", x.told(22), 6);
        due.is("tired anew", x.told(32), 1);
        due.is("stuck anew", x.told(42), 0);
        due.is("neighbours stay", x.told(12), 32);
    }

    private static void neighbours() {
        StuckVanes x = new StuckVanes();
        due.is("though not there", x.neighbours(0, 6, true), 1);
        due.is("both ways", x.told(10), 64);
        due.is("both ways", x.told(16), 1);
        due.is("the same, turned", x.neighbours(6, 0, true), 1);
        due.is("another", x.neighbours(3, 0, true), 2);
        due.is("bits", x.told(10), 64 + 8);
        due.is("are not", x.neighbours(0, 6, false), 1);
        due.is("are not again", x.neighbours(6, 0, false), 1);
        due.is("bits", x.told(10), 8);
        due.is("bits", x.told(16), 0);
        for (int a = 0; a < 7; a++) {
            for (int b = 0; b < a; b++) {
                x.neighbours(a, b, true);
            }
        }
        due.is("all", x.neighbours(0, 1, true), 21);
        due.is("one", x.neighbours(4, 4, true), StuckVanes.UNKNOWN);
        due.is("one, false", x.neighbours(4, 4, false), StuckVanes.UNKNOWN);
        due.is("a below", x.neighbours(-1, 0, true), StuckVanes.UNKNOWN);
        due.is("a above", x.neighbours(7, 0, true), StuckVanes.UNKNOWN);
        due.is("b below", x.neighbours(0, -1, true), StuckVanes.UNKNOWN);
        due.is("b above", x.neighbours(0, 7, true), StuckVanes.UNKNOWN);
        due.is("nothing changed", x.told(14), 127 - 16);
    }

    private static void weather() {
        StuckVanes x = new StuckVanes();
        due.is("as it was", x.weather(7, 9), 5);
        due.is("as it was", x.weather(0, 0), 79);
        due.is("as it was", x.weather(3, 4), 0);
        due.is("wind", x.told(3), 3);
        due.is("oil", x.told(4), 4);
        due.is("wind below", x.weather(-1, 0), StuckVanes.OUTSIDE);
        due.is("wind above", x.weather(8, 0), StuckVanes.OUTSIDE);
        due.is("oil below", x.weather(0, -1), StuckVanes.OUTSIDE);
        due.is("oil above", x.weather(0, 10), StuckVanes.OUTSIDE);
        due.is("nothing changed", x.weather(3, 4), 34);
    }

    private static void creed() {
        StuckVanes x = new StuckVanes();
        due.is("as they were", x.creed(255), 0);
        due.is("as they were", x.creed(129), 255);
        due.is("held", x.told(2), 129);
        due.is("below", x.creed(-1), StuckVanes.OUTSIDE);
        due.is("above", x.creed(256), StuckVanes.OUTSIDE);
        due.is("nothing changed", x.creed(0), 129);
        due.is("none", x.told(2), 0);
    }

    private static void told() {
        StuckVanes x = new StuckVanes();
        x.parish(1, 2, true, 3);
        x.weather(4, 6);
        x.creed(77);
        x.seen(3, true);
        x.seen(3, true);
        due.doneIs(x, "..", 2);
        due.pad(x, "A*w");
        int[] all = {3, 2, 77, 4, 6, 2, 2};
        for (int what = 0; what < all.length; what++) {
            due.is("told(" + what + ")", x.told(what), all[what]);
        }
        due.is("points", x.told(21), 4);
        due.is("tired", x.told(31), 5);
        due.is("free", x.told(41), 1);
        int[] outside = {Integer.MIN_VALUE, -1, 7, 8, 9, 17, 18, 19, 20, 22, 26, 27, 29, 30, 37, 40, 47, 49, 50, 51,
            61, 101, 1011, Integer.MAX_VALUE};
        for (int what : outside) {
            due.is("told(" + what + ")", x.told(what), StuckVanes.OUTSIDE);
        }
    }
}
