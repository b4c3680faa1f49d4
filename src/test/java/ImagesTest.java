/** Promises 25 and 26: images. */
public final class ImagesTest {
    private static final Due due = new Due();

    public static void main(String[] args) {
        keptAndRestored();
        twoImages();
        thePadIsNoPart();
        refused();
        due.end();
    }

    private static StuckVanes settled() {
        StuckVanes x = new StuckVanes();
        x.parish(0, 1, true, 2);
        x.parish(3, 4, false, 5);
        x.neighbours(0, 3, true);
        x.neighbours(5, 6, true);
        x.weather(6, 7);
        x.creed(9);
        due.doneIs(x, "..", 2);
        x.seen(2, true);
        x.seen(5, false);
        return x;
    }

    private static void keptAndRestored() {
        for (int n = 0; n < 2; n++) {
            StuckVanes x = settled();
            String before = State.of(x);
            due.is("image", x.image(n), 1);
            same("an image changes nothing", before, x);
            x.parish(0, 5, false, 0);
            x.parish(1, 0, true, 0);
            x.parish(3, 4, true, 9);
            x.neighbours(0, 3, false);
            x.neighbours(1, 2, true);
            x.weather(0, 0);
            x.creed(0);
            x.forget();
            x.seen(0, false);
            due.doneIs(x, "...", 3);
            due.is("restore", x.restore(n), 1);
            same("as it was", before, x);
            due.is("all fit", x.stuck(-1), settled().stuck(-1));
            x.weather(1, 1);
            x.neighbours(1, 2, true);
            due.is("restore again", x.restore(n), 1);
            same("an image stays", before, x);
        }
    }

    private static void twoImages() {
        StuckVanes x = new StuckVanes();
        due.is("image 1", x.image(1), 1);
        due.is("0 was not kept", x.restore(0), StuckVanes.STATE);
        String empty = State.of(x);
        x.parish(6, 6, true, 6);
        String one = State.of(x);
        due.is("image 0", x.image(0), 1);
        due.is("restore 1", x.restore(1), 1);
        same("nobody", empty, x);
        due.is("restore 0", x.restore(0), 1);
        same("one", one, x);
        due.is("over the other", x.image(1), 1);
        x.parish(0, 0, true, 0);
        due.is("restore 1", x.restore(1), 1);
        same("one", one, x);
    }

    private static void thePadIsNoPart() {
        StuckVanes x = new StuckVanes();
        due.pad(x, "w3");
        due.is("image", x.image(0), 1);
        due.pad(x, "w4.");
        due.is("restore", x.restore(0), 1);
        due.is("the pad stays", x.told(0), 3);
        due.is("done", x.done(), 2);
        due.is("wind", x.told(3), 4);
        due.is("restore", x.restore(0), 1);
        due.is("the pad stays empty", x.told(0), 0);
        due.is("wind", x.told(3), 0);
        due.is("hour", x.told(5), 0);
    }

    private static void refused() {
        StuckVanes x = new StuckVanes();
        due.is("image below", x.image(-1), StuckVanes.OUTSIDE);
        due.is("image above", x.image(2), StuckVanes.OUTSIDE);
        due.is("restore below", x.restore(-1), StuckVanes.OUTSIDE);
        due.is("restore above", x.restore(2), StuckVanes.OUTSIDE);
        due.is("not kept", x.restore(0), StuckVanes.STATE);
        due.is("not kept", x.restore(1), StuckVanes.STATE);
    }

    private static void same(String what, String before, StuckVanes x) {
        String after = State.of(x);
        due.is(what, after.equals(before) ? 1 : 0, 1);
    }
}
