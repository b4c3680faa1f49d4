import java.math.BigInteger;
import java.util.ArrayList;
import java.util.Arrays;
import java.util.Collections;
import java.util.List;
import java.util.TreeMap;
import java.util.TreeSet;

/** The document once more, as plainly as it can be told and with no eye to speed: ModelTest holds the class to it. */
final class Model {
    private static final int NONE = -6, UNKNOWN = -1, OUTSIDE = -2, STATE = -3, FULL = -4, NO = -5;

    /** All but the PAD; every change is made on a copy. */
    private static final class World {
        private final TreeMap<Integer, int[]> there = new TreeMap<>();
        private final TreeSet<Integer> pairs = new TreeSet<>();
        private final TreeSet<Integer> held = new TreeSet<>();
        private final List<int[]> sights = new ArrayList<>();
        private int wind = 0;
        private int oil = 5;
        private int hour = 0;

        World copy() {
            World copy = new World();
            for (int parish : there.keySet()) {
                copy.there.put(parish, there.get(parish).clone());
            }
            copy.pairs.addAll(pairs);
            copy.held.addAll(held);
            copy.sights.addAll(sights);
            copy.wind = wind;
            copy.oil = oil;
            copy.hour = hour;
            return copy;
        }
    }

    private World now = new World();
    private final World[] images = new World[2];
    private String pad = "";
    private int heldAct;
    private int heldThing;

    private static boolean in(int number, int least, int most) {
        return least <= number && number <= most;
    }

    private static int bits(Iterable<Integer> set) {
        int bits = 0;
        for (int member : set) {
            bits += 1 << member;
        }
        return bits;
    }

    private static int apart(int one, int other) {
        int steps = 0;
        while ((one + steps) % 8 != other && (other + steps) % 8 != one) {
            steps++;
        }
        return steps;
    }

    int parish(int parish, int points, boolean free, int tired) {
        if (!in(parish, 0, 6)) {
            return UNKNOWN;
        }
        if (!in(points, 0, 7) || !in(tired, 0, 9)) {
            return OUTSIDE;
        }
        now.there.put(parish, new int[] {points, tired, free ? 1 : 0});
        return now.there.size();
    }

    int neighbours(int a, int b, boolean is) {
        if (!in(a, 0, 6) || !in(b, 0, 6) || a == b) {
            return UNKNOWN;
        }
        int pair = 10 * Math.min(a, b) + Math.max(a, b);
        if (is) {
            now.pairs.add(pair);
        } else {
            now.pairs.remove(pair);
        }
        return now.pairs.size();
    }

    int weather(int wind, int oil) {
        if (!in(wind, 0, 7) || !in(oil, 0, 9)) {
            return OUTSIDE;
        }
        int before = 10 * now.wind + now.oil;
        now.wind = wind;
        now.oil = oil;
        return before;
    }

    int creed(int things) {
        if (!in(things, 0, 255)) {
            return OUTSIDE;
        }
        int before = bits(now.held);
        now.held.clear();
        for (int thing = 0; thing < 8; thing++) {
            if (things / (1 << thing) % 2 == 1) {
                now.held.add(thing);
            }
        }
        return before;
    }

    int say(int sign) {
        if (!in(sign, 33, 126)) {
            return OUTSIDE;
        }
        if (pad.length() == 60) {
            return FULL;
        }
        pad += (char) sign;
        return pad.length();
    }

    int wipe() {
        int before = pad.length();
        pad = "";
        return before;
    }

    int fault() {
        String rest = pad;
        while (rest.matches("(?s)(\\.|[A-G][*#0-7]|[wv][0-7]).*")) {
            rest = rest.substring(rest.startsWith(".") ? 1 : 2);
        }
        if (rest.isEmpty()) {
            return NONE;
        }
        return pad.length() - rest.length() + (rest.matches("(?s)[A-Gwv].*") ? 1 : 0);
    }

    private int reason(World world, String act) {
        char head = act.charAt(0);
        char tail = act.charAt(act.length() - 1);
        if (head == '.') {
            return world.hour == 99 ? 7 : 0;
        }
        if (head == 'w') {
            return world.wind == tail - '0' ? 5 : 0;
        }
        if (head == 'v') {
            return world.there.isEmpty() ? 6 : 0;
        }
        int[] parish = world.there.get(head - 'A');
        if (parish == null) {
            return 1;
        }
        if (tail == '*') {
            return parish[2] == 1 ? 2 : world.oil == 0 ? 4 : 0;
        }
        if (parish[2] == 0) {
            return 2;
        }
        return tail != '#' && parish[0] == tail - '0' ? 3 : 0;
    }

    private static boolean carried(World world, int thing) {
        int agree = 0;
        for (int[] parish : world.there.values()) {
            agree += apart(parish[0], thing) <= 1 ? 1 : 0;
        }
        return agree > world.there.size() - agree;
    }

    private static void hour(World world, int wind) {
        for (int[] parish : world.there.values()) {
            if (parish[2] == 1 && parish[0] != wind) {
                int east = (parish[0] + 1) % 8;
                int west = (parish[0] + 7) % 8;
                parish[0] = apart(east, wind) <= apart(west, wind) ? east : west;
                parish[1] = parish[1] == 9 ? 9 : parish[1] + 1;
            } else {
                parish[1] = parish[1] == 0 ? 0 : parish[1] - 1;
            }
        }
    }

    private static World behindAct(World before, String act) {
        World world = before.copy();
        char head = act.charAt(0);
        char tail = act.charAt(act.length() - 1);
        if (head == '.') {
            hour(world, world.wind);
            world.hour++;
        } else if (head == 'w') {
            world.wind = tail - '0';
        } else if (head == 'v') {
            if (carried(world, tail - '0')) {
                world.held.add(tail - '0');
            } else {
                world.held.remove(tail - '0');
            }
        } else if (tail == '*') {
            world.there.get(head - 'A')[2] = 1;
            world.oil--;
        } else if (tail == '#') {
            world.there.get(head - 'A')[2] = 0;
        } else {
            world.there.get(head - 'A')[0] = tail - '0';
        }
        return world;
    }

    private List<String> acts() {
        List<String> acts = new ArrayList<>();
        for (int at = 0; at < pad.length(); at += acts.get(acts.size() - 1).length()) {
            acts.add(pad.charAt(at) == '.' ? "." : pad.substring(at, at + 2));
        }
        return acts;
    }

    /** The first ACT that can not be, and why; none. */
    private int[] firstThatCanNotBe() {
        World world = now;
        int act = 0;
        for (String text : acts()) {
            int reason = reason(world, text);
            if (reason != 0) {
                return new int[] {act, reason};
            }
            world = behindAct(world, text);
            act++;
        }
        return new int[] {NONE, NONE};
    }

    /** All as it is behind the PAD; null: NO. */
    private World behindAll() {
        if (fault() != NONE || firstThatCanNotBe()[0] != NONE) {
            return null;
        }
        World world = now.copy();
        heldAct = NONE;
        heldThing = NONE;
        List<String> acts = acts();
        for (int act = 0; act < acts.size(); act++) {
            World next = behindAct(world, acts.get(act));
            for (int thing : next.held) {
                if (heldAct == NONE && !world.held.contains(thing)) {
                    heldAct = act;
                    heldThing = thing;
                }
            }
            world = next;
        }
        return world;
    }

    int judge(int what) {
        if (!in(what, 0, 1)) {
            return OUTSIDE;
        }
        return fault() != NONE ? NO : firstThatCanNotBe()[what];
    }

    int done() {
        World world = behindAll();
        if (world == null) {
            return NO;
        }
        int acts = acts().size();
        now = world;
        pad = "";
        return acts;
    }

    int behind(int parish, int what) {
        if (!now.there.containsKey(parish)) {
            return UNKNOWN;
        }
        if (!in(what, 0, 2)) {
            return OUTSIDE;
        }
        World world = behindAll();
        return world == null ? NO : world.there.get(parish)[what];
    }

    int then(int what) {
        if (!in(what, 0, 6)) {
            return OUTSIDE;
        }
        World world = behindAll();
        if (world == null) {
            return NO;
        }
        int tired = NONE;
        for (int parish : world.there.keySet()) {
            if (tired == NONE || world.there.get(parish)[1] > world.there.get(tired)[1]) {
                tired = parish;
            }
        }
        return new int[] {bits(world.held), world.oil, world.wind, world.hour, tired, heldAct, heldThing}[what];
    }

    int agrees(int thing) {
        if (!in(thing, 0, 7)) {
            return UNKNOWN;
        }
        int bits = 0;
        for (int parish : now.there.keySet()) {
            bits += apart(now.there.get(parish)[0], thing) <= 1 ? 1 << parish : 0;
        }
        return bits;
    }

    int soon(int thing, int w) {
        if (!in(thing, 0, 7)) {
            return UNKNOWN;
        }
        if (!in(w, 0, 7)) {
            return OUTSIDE;
        }
        World world = now.copy();
        for (int hours = 0; hours <= 8; hours++) {
            if (carried(world, thing)) {
                return hours;
            }
            hour(world, w);
        }
        return NONE;
    }

    private boolean beats(int one, int other) {
        int likeOne = 0;
        int likeOther = 0;
        for (int[] parish : now.there.values()) {
            likeOne += apart(parish[0], one) < apart(parish[0], other) ? 1 : 0;
            likeOther += apart(parish[0], other) < apart(parish[0], one) ? 1 : 0;
        }
        return likeOne != likeOther ? likeOne > likeOther : one < other;
    }

    int agenda(int row, int n) {
        if (!in(n, 2, 8) || row < 0) {
            return OUTSIDE;
        }
        String digits = String.valueOf(row);
        digits = digits.length() == n - 1 ? "0" + digits : digits;
        if (digits.length() != n || !digits.matches("[0-7]*") || digits.chars().distinct().count() != n) {
            return OUTSIDE;
        }
        int left = digits.charAt(0) - '0';
        for (int i = 1; i < n; i++) {
            int next = digits.charAt(i) - '0';
            left = beats(left, next) ? left : next;
        }
        return left;
    }

    /** The THINGS that can be left of those of a set, by all AGENDAS of these. */
    private int left(int set, int[] known) {
        if (known[set] != 0 || set == 0) {
            return known[set];
        }
        int left = 0;
        for (int last = 0; last < 8; last++) {
            if ((set >> last & 1) == 0) {
                continue;
            }
            int before = left(set - (1 << last), known);
            for (int thing = 0; thing < 8; thing++) {
                if ((before >> thing & 1) != 0) {
                    left |= 1 << (beats(thing, last) ? thing : last);
                }
            }
            left |= before == 0 ? set : 0;
        }
        known[set] = left;
        return left;
    }

    int can(int thing, int what) {
        if (!in(thing, 0, 7)) {
            return UNKNOWN;
        }
        if (!in(what, 0, 1)) {
            return OUTSIDE;
        }
        if (what == 0) {
            return left(255, new int[256]) >> thing & 1;
        }
        int many = 0;
        for (int other = 0; other < 8; other++) {
            many += other != thing && beats(thing, other) ? 1 : 0;
        }
        return many;
    }

    int ways(int n, int what) {
        if (!in(n, 1, 8) || !in(what, 0, 1)) {
            return OUTSIDE;
        }
        if (what == 0) {
            return waysOf(new ArrayList<>(now.there.keySet()), new ArrayList<>(), n);
        }
        int fewest = 0;
        while (!now.there.isEmpty() && (fewest == 0 || ways(fewest, 0) == 0)) {
            fewest++;
        }
        return fewest;
    }

    /** By the groups that POINT alike: the first has n ways, the next one less, and so on. */
    private int waysOf(List<Integer> rest, List<List<Integer>> groups, int n) {
        if (rest.isEmpty()) {
            int ways = 1;
            for (int i = 0; i < groups.size(); i++) {
                ways *= Math.max(0, n - i);
            }
            return ways;
        }
        int parish = rest.get(0);
        List<Integer> others = rest.subList(1, rest.size());
        int ways = 0;
        for (List<Integer> group : groups) {
            boolean near = false;
            for (int member : group) {
                near |= now.pairs.contains(10 * Math.min(member, parish) + Math.max(member, parish));
            }
            if (!near) {
                group.add(parish);
                ways += waysOf(others, groups, n);
                group.remove(group.size() - 1);
            }
        }
        List<List<Integer>> more = new ArrayList<>();
        for (List<Integer> group : groups) {
            more.add(new ArrayList<>(group));
        }
        more.add(new ArrayList<>(Collections.singletonList(parish)));
        return ways + waysOf(others, more, n);
    }

    int seen(int thing, boolean agreed) {
        if (!in(thing, 0, 7)) {
            return UNKNOWN;
        }
        if (now.sights.size() == 8) {
            return FULL;
        }
        now.sights.add(new int[] {thing, agreed ? 1 : 0});
        return now.sights.size();
    }

    int forget() {
        int before = now.sights.size();
        now.sights.clear();
        return before;
    }

    private List<Integer> fitting(int thing, boolean agreed) {
        List<Integer> fitting = new ArrayList<>();
        for (int guess = 0; guess < 80; guess++) {
            boolean fits = guess % 10 < 4 && (thing == NONE || (apart(guess / 10, thing) <= guess % 10) == agreed);
            for (int[] sight : now.sights) {
                fits &= (apart(guess / 10, sight[0]) <= guess % 10) == (sight[1] == 1);
            }
            if (fits) {
                fitting.add(guess);
            }
        }
        return fitting;
    }

    int stuck(int i) {
        List<Integer> fitting = fitting(NONE, true);
        if (i == -1) {
            return fitting.size();
        }
        return in(i, 0, fitting.size() - 1) ? fitting.get(i) : NONE;
    }

    int ask(int what) {
        if (!in(what, 0, 1)) {
            return OUTSIDE;
        }
        if (fitting(NONE, true).isEmpty()) {
            return NONE;
        }
        int best = 99;
        int ask = NONE;
        for (int thing = 7; thing >= 0; thing--) {
            int most = Math.max(fitting(thing, true).size(), fitting(thing, false).size());
            ask = most <= best ? thing : ask;
            best = Math.min(best, most);
        }
        return what == 0 ? ask : best;
    }

    int drops(int n, int what) {
        if (!in(n, 0, 200) || !in(what, 0, 1)) {
            return OUTSIDE;
        }
        int[] take = new int[n + 1];
        Arrays.fill(take, NONE);
        for (int left = 0; left <= n; left++) {
            for (int square : new int[] {196, 169, 144, 121, 100, 81, 64, 49, 36, 25, 16, 9, 4, 1}) {
                take[left] = square <= left && take[left - square] == NONE ? square : take[left];
            }
        }
        return what == 1 ? take[n] : take[n] == NONE ? 0 : 1;
    }

    long everywhere(int m, int n, int what, int part) {
        if (!in(m, 1, 8) || !in(n, 0, 16) || !in(what, 0, 1) || !in(part, 0, 1)) {
            return -1000000000000000000L + OUTSIDE;
        }
        BigInteger upper = BigInteger.ZERO;
        BigInteger lower = what == 0 ? BigInteger.valueOf(m).pow(n) : BigInteger.valueOf(40320);
        BigInteger choose = BigInteger.ONE;
        for (int out = 0; out <= m; out++) {
            BigInteger term = choose.multiply(BigInteger.valueOf(m - out).pow(n));
            if (what == 1) {
                term = out == 0 ? BigInteger.ZERO : BigInteger.valueOf(40320 / out * m);
            }
            upper = what == 0 && out % 2 == 1 ? upper.subtract(term) : upper.add(term);
            choose = choose.multiply(BigInteger.valueOf(m - out)).divide(BigInteger.valueOf(out + 1));
        }
        BigInteger divisor = upper.gcd(lower);
        return (part == 0 ? upper : lower).divide(divisor).longValueExact();
    }

    int year(int seed, int m, int what) {
        if (!in(seed, 0, 9999) || !in(m, 1, 99) || !in(what, 0, 2)) {
            return OUTSIDE;
        }
        World world = now.copy();
        int x = seed;
        for (int i = 0; i < m; i++) {
            x = (75 * x + 74) % 65537;
            char letter = "ABCDEFG".charAt(x % 7);
            int z = x / 56 % 8;
            String[] drawn = {letter + "*", letter + "#", letter + "" + z, "w" + z, "v" + z, ".", ".", "."};
            String act = drawn[x / 7 % 8];
            world = reason(world, act) == 0 ? behindAct(world, act) : world;
        }
        int tired = 0;
        for (int[] parish : world.there.values()) {
            tired += parish[1];
        }
        return new int[] {world.held.size(), tired, world.oil}[what];
    }

    int image(int n) {
        if (!in(n, 0, 1)) {
            return OUTSIDE;
        }
        images[n] = now.copy();
        return 1;
    }

    int restore(int n) {
        if (!in(n, 0, 1)) {
            return OUTSIDE;
        }
        if (images[n] == null) {
            return STATE;
        }
        now = images[n].copy();
        return 1;
    }

    int told(int what) {
        if (in(what, 0, 6)) {
            return new int[] {pad.length(), bits(now.there.keySet()), bits(now.held), now.wind, now.oil, now.hour,
                now.sights.size()}[what];
        }
        if (in(what, 10, 16)) {
            TreeSet<Integer> near = new TreeSet<>();
            for (int pair : now.pairs) {
                if (pair / 10 == what - 10 || pair % 10 == what - 10) {
                    near.add(pair / 10 + pair % 10 - (what - 10));
                }
            }
            return bits(near);
        }
        int[] parish = in(what, 20, 49) ? now.there.get(what % 10) : null;
        return parish == null ? OUTSIDE : parish[what / 10 - 2];
    }
}
