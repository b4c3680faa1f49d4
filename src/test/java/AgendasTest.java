/** Promises 14 to 17: SOON, AGENDA, CAN, WAYS. */
public final class AgendasTest {
    private static final Due due = new Due();

    public static void main(String[] args) {
        soon();
        agenda();
        rowsThatAreNone();
        can();
        ways();
        agendasOneByOne();
        waysOneByOne();
        due.end();
    }

    private static void soon() {
        StuckVanes x = new StuckVanes();
        due.is("nobody", x.soon(0, 0), StuckVanes.NONE);
        x.parish(0, 4, true, 0);
        for (int thing = 3; thing <= 5; thing++) {
            due.is("at once", x.soon(thing, 0), 0);
        }
        due.is("eastwards", x.soon(6, 0), 1);
        due.is("eastwards", x.soon(7, 0), 2);
        due.is("eastwards", x.soon(0, 0), 3);
        due.is("it stops there", x.soon(1, 0), 4);
        due.is("it stops there", x.soon(2, 0), StuckVanes.NONE);
        due.is("westwards", x.soon(1, 1), 2);
        x.parish(1, 0, false, 0);
        due.is("half is not enough", x.soon(2, 2), StuckVanes.NONE);
        due.is("both", x.soon(1, 1), 2);
        x.parish(2, 4, true, 0);
        due.is("two of three", x.soon(2, 2), 1);
        due.is("unknown below", x.soon(-1, 0), StuckVanes.UNKNOWN);
        due.is("unknown above", x.soon(8, 0), StuckVanes.UNKNOWN);
        due.is("unknown first", x.soon(8, 8), StuckVanes.UNKNOWN);
        due.is("wind below", x.soon(0, -1), StuckVanes.OUTSIDE);
        due.is("wind above", x.soon(0, 8), StuckVanes.OUTSIDE);
        due.is("nothing moved", x.told(20), 4);
        due.is("nobody tired", x.told(30), 0);
        due.is("wind", x.told(3), 0);
        due.is("hour", x.told(5), 0);
    }

    private static void agenda() {
        StuckVanes x = new StuckVanes();
        due.is("the less number", x.agenda(70, 2), 0);
        due.is("the less number", x.agenda(7, 2), 0);
        x.parish(0, 4, false, 0);
        due.is("liked better", x.agenda(73, 2), 3);
        due.is("as near", x.agenda(53, 2), 3);
        due.is("as near", x.agenda(35, 2), 3);
        due.is("all, the least ahead", x.agenda(1234567, 8), 4);
        due.is("all but", x.agenda(123567, 7), 3);
        due.is("all but", x.agenda(7650123, 7), 3);
        // A likes 4 best, B 0 and C 2: 2 beats both, 0 beats 4 as all are of as much.
        x.parish(1, 0, true, 0);
        due.is("as many", x.agenda(40, 2), 0);
        x.parish(2, 2, false, 0);
        due.is("the middle", x.agenda(204, 3), 2);
        due.is("the middle", x.agenda(42, 3), 2);
    }

    private static void rowsThatAreNone() {
        StuckVanes x = new StuckVanes();
        int[][] none = {{0, 1}, {1, 1}, {1, 0}, {1, -1}, {12345670, 9}, {0, 2}, {11, 2}, {8, 2}, {80, 2}, {90, 2},
            {100, 2}, {102, 2}, {-12, 2}, {-1, 2}, {1, 3}, {121, 3}, {1234568, 8}, {Integer.MIN_VALUE, 8},
            {Integer.MAX_VALUE, 8}, {123456700, 8}, {12345677, 8}, {Integer.MIN_VALUE, 2}, {12, 1000}, {12, Integer.MIN_VALUE}};
        for (int[] row : none) {
            due.is("agenda(" + row[0] + ", " + row[1] + ")", x.agenda(row[0], row[1]), StuckVanes.OUTSIDE);
        }
        due.is("a 0 ahead", x.agenda(1, 2), 0);
        due.is("a 0 ahead", x.agenda(12, 3), 0);
    }

    private static void can() {
        StuckVanes x = new StuckVanes();
        for (int thing = 0; thing < 8; thing++) {
            due.is("nobody can", x.can(thing, 0), thing == 0 ? 1 : 0);
            due.is("nobody beats", x.can(thing, 1), 7 - thing);
        }
        x.parish(3, 6, false, 0);
        int[] beaten = {4, 2, 0, 1, 3, 6, 7, 5};
        for (int thing = 0; thing < 8; thing++) {
            due.is("one likes", x.can(thing, 1), beaten[thing]);
            due.is("one can", x.can(thing, 0), thing == 6 ? 1 : 0);
        }
        due.is("unknown below", x.can(-1, 0), StuckVanes.UNKNOWN);
        due.is("unknown above", x.can(8, 0), StuckVanes.UNKNOWN);
        due.is("unknown first", x.can(8, 2), StuckVanes.UNKNOWN);
        due.is("outside below", x.can(0, -1), StuckVanes.OUTSIDE);
        due.is("outside above", x.can(0, 2), StuckVanes.OUTSIDE);
    }

    private static void ways() {
        StuckVanes x = new StuckVanes();
        for (int n = 1; n <= 8; n++) {
            due.is("nobody", x.ways(n, 0), 1);
            due.is("nobody", x.ways(n, 1), 0);
        }
        for (int parish = 0; parish < 7; parish++) {
            x.parish(parish, 3, parish % 2 == 0, 0);
        }
        due.is("free of each other", x.ways(8, 0), 2097152);
        due.is("free of each other", x.ways(1, 0), 1);
        due.is("free of each other", x.ways(5, 1), 1);
        for (int a = 0; a < 7; a++) {
            for (int b = 0; b < a; b++) {
                x.neighbours(a, b, true);
            }
        }
        due.is("all neighbours", x.ways(8, 0), 40320);
        due.is("all neighbours", x.ways(7, 0), 5040);
        due.is("all neighbours", x.ways(6, 0), 0);
        due.is("all neighbours", x.ways(1, 1), 7);
        due.is("n below", x.ways(0, 0), StuckVanes.OUTSIDE);
        due.is("n above", x.ways(9, 1), StuckVanes.OUTSIDE);
        due.is("what below", x.ways(8, -1), StuckVanes.OUTSIDE);
        due.is("what above", x.ways(8, 2), StuckVanes.OUTSIDE);
    }

    /** What can be left, against all agendas tried one by one. */
    private static void agendasOneByOne() {
        int[][] vanes = {{0, 3, 6}, {0, 2, 4, 5, 5, 3}, {7, 1, 4, 4, 2}, {1, 1, 6}, {0, 4}, {2, 5, 7, 7}};
        for (int[] set : vanes) {
            StuckVanes x = new StuckVanes();
            for (int parish = 0; parish < set.length; parish++) {
                x.parish(parish, set[parish], true, 0);
            }
            boolean[][] beats = new boolean[8][8];
            for (int a = 0; a < 8; a++) {
                int many = 0;
                for (int b = 0; b < 8; b++) {
                    beats[a][b] = a != b && beats(set, a, b);
                    many += beats[a][b] ? 1 : 0;
                    if (a != b) {
                        due.is("agenda of two", x.agenda(10 * a + b, 2), beats[a][b] ? a : b);
                    }
                }
                due.is("how many " + a + " beats", x.can(a, 1), many);
            }
            int left = leftFrom(beats, 255, -1);
            for (int thing = 0; thing < 8; thing++) {
                due.is("can(" + thing + ", 0)", x.can(thing, 0), left >> thing & 1);
            }
            due.is("a row", x.agenda(60413725, 8), leftOf(beats, new int[] {6, 0, 4, 1, 3, 7, 2, 5}));
            due.is("a row", x.agenda(3172, 5), leftOf(beats, new int[] {0, 3, 1, 7, 2}));
        }
    }

    private static int leftOf(boolean[][] beats, int[] row) {
        int left = row[0];
        for (int i = 1; i < row.length; i++) {
            left = beats[left][row[i]] ? left : row[i];
        }
        return left;
    }

    private static int leftFrom(boolean[][] beats, int open, int left) {
        if (open == 0) {
            return 1 << left;
        }
        int all = 0;
        for (int thing = 0; thing < 8; thing++) {
            if ((open >> thing & 1) != 0) {
                all |= leftFrom(beats, open & ~(1 << thing), left >= 0 && beats[left][thing] ? left : thing);
            }
        }
        return all;
    }

    private static boolean beats(int[] vanes, int a, int b) {
        int forA = 0;
        int forB = 0;
        for (int vane : vanes) {
            int toA = Math.min(Math.abs(vane - a), 8 - Math.abs(vane - a));
            int toB = Math.min(Math.abs(vane - b), 8 - Math.abs(vane - b));
            forA += toA < toB ? 1 : 0;
            forB += toB < toA ? 1 : 0;
        }
        return forA == forB ? a < b : forA > forB;
    }

    /** WAYS, against all ways tried one by one; one PARISH is not there, and its NEIGHBOURS are no matter. */
    private static void waysOneByOne() {
        int[][][] sets = {{{0, 1}, {1, 2}, {2, 0}}, {{0, 1}, {1, 2}, {2, 3}, {3, 5}, {5, 0}}, {{4, 0}, {4, 1}, {4, 2}},
            {{0, 6}, {6, 5}, {5, 0}, {3, 0}, {3, 5}, {3, 6}, {1, 2}}, {{0, 1}, {2, 3}, {5, 6}}, {{0, 2}, {0, 3}, {1, 2}, {1, 3}}};
        for (int[][] pairs : sets) {
            StuckVanes x = new StuckVanes();
            for (int parish = 0; parish < 7; parish++) {
                if (parish != 4) {
                    x.parish(parish, 0, false, 0);
                }
            }
            for (int[] pair : pairs) {
                x.neighbours(pair[0], pair[1], true);
            }
            int fewest = 0;
            for (int n = 1; n <= 8; n++) {
                int ways = countWays(pairs, n);
                fewest = fewest == 0 && ways > 0 ? n : fewest;
                due.is("ways(" + n + ", 0)", x.ways(n, 0), ways);
            }
            due.is("fewest", x.ways(3, 1), fewest);
        }
    }

    private static int countWays(int[][] pairs, int n) {
        int[] points = new int[7];
        int all = n * n * n * n * n * n;
        int ways = 0;
        for (int code = 0; code < all; code++) {
            int rest = code;
            for (int parish = 0; parish < 7; parish++) {
                points[parish] = parish == 4 ? -1 : rest % n;
                rest /= parish == 4 ? 1 : n;
            }
            boolean alike = false;
            for (int[] pair : pairs) {
                alike |= points[pair[0]] == points[pair[1]];
            }
            ways += alike ? 0 : 1;
        }
        return ways;
    }
}
