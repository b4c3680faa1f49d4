/** Parishes that are set in the way their vane has stuck; DOC.md tells what each call promises. */
public final class StuckVanes {
    public static final int NONE = -6, UNKNOWN = -1, OUTSIDE = -2, STATE = -3, FULL = -4, NO = -5;
    public static final long LOST = -1000000000000000000L;

    private static final int PARISHES = 7, COMPASS = 8, LAST_WAY = 7, HALF_TURN = 4;
    private static final int MOST_TIRED = 9, MOST_OIL = 9, LAST_HOUR = 99, ALL_THINGS = 255;
    private static final int MOST_SIGNS = 60, FIRST_SIGN = 33, LAST_SIGN = 126;
    private static final int SOON_HOURS = 8, MOST_SIGHTS = 8, REACHES = 4;
    private static final int MOST_DROPS = 200, MOST_CHANCE_HOURS = 16;
    private static final int LAST_SEED = 9999, MOST_DRAWS = 99;

    // The kinds of ACTS are numbered as A YEAR draws them.
    private static final int OILING = 0, STICKING = 1, BY_HAND = 2, BLOWING = 3, VOTING = 4, HOUR = 5;

    private final World now = new World();
    private final World image0 = new World();
    private final World image1 = new World();
    private int kept;
    private final Pad pad = new Pad();
    private final Weeks weeks = new Weeks();
    private final Agendas agendas = new Agendas();
    private final Pointings pointings = new Pointings();
    private final Guesses guesses = new Guesses();
    private final Squares squares = new Squares();
    private final Chances chances = new Chances();

    public StuckVanes() {
    }

    // ---- 1 parishes, the wind, oil, weeks

    public int parish(int parish, int points, boolean free, int tired) {
        if (!isParish(parish)) {
            return UNKNOWN;
        }
        if (!isWay(points) || !isUpTo(tired, MOST_TIRED)) {
            return OUTSIDE;
        }
        now.settle(parish, points, free, tired);
        return now.parishesThere();
    }

    public int neighbours(int a, int b, boolean is) {
        if (!isParish(a) || !isParish(b) || a == b) {
            return UNKNOWN;
        }
        now.near[a] = withBit(now.near[a], b, is);
        now.near[b] = withBit(now.near[b], a, is);
        return now.pairsOfNeighbours();
    }

    public int weather(int wind, int oil) {
        if (!isWay(wind) || !isUpTo(oil, MOST_OIL)) {
            return OUTSIDE;
        }
        int before = 10 * now.wind + now.oil;
        now.wind = wind;
        now.oil = oil;
        return before;
    }

    public int creed(int things) {
        if (!isUpTo(things, ALL_THINGS)) {
            return OUTSIDE;
        }
        int before = now.held;
        now.held = things;
        return before;
    }

    public int say(int sign) {
        if (sign < FIRST_SIGN || sign > LAST_SIGN) {
            return OUTSIDE;
        }
        return pad.write(sign) ? pad.length : FULL;
    }

    public int wipe() {
        int before = pad.length;
        pad.length = 0;
        return before;
    }

    public int fault() {
        return pad.read();
    }

    // ---- 2 weeks

    public int judge(int what) {
        if (!isUpTo(what, 1)) {
            return OUTSIDE;
        }
        int why = weeks.tryAll(pad, now);
        if (why == NO) {
            return NO;
        }
        if (why == 0) {
            return NONE;
        }
        return what == 0 ? weeks.acts : why;
    }

    public int done() {
        if (weeks.tryAll(pad, now) != 0) {
            return NO;
        }
        now.becomeLike(weeks.world);
        pad.length = 0;
        return weeks.acts;
    }

    public int behind(int parish, int what) {
        if (!now.isThere(parish)) {
            return UNKNOWN;
        }
        if (!isUpTo(what, 2)) {
            return OUTSIDE;
        }
        return weeks.tryAll(pad, now) == 0 ? weeks.world.tell(parish, what) : NO;
    }

    public int then(int what) {
        if (!isUpTo(what, 6)) {
            return OUTSIDE;
        }
        if (weeks.tryAll(pad, now) != 0) {
            return NO;
        }
        World last = weeks.world;
        switch (what) {
            case 0: return last.held;
            case 1: return last.oil;
            case 2: return last.wind;
            case 3: return last.hour;
            case 4: return last.mostTired();
            case 5: return weeks.heldAct;
            default: return weeks.heldThing;
        }
    }

    public int agrees(int thing) {
        return isWay(thing) ? now.agreeing(thing) : UNKNOWN;
    }

    // ---- 3 soon, agendas, ways

    public int soon(int thing, int w) {
        if (!isWay(thing)) {
            return UNKNOWN;
        }
        if (!isWay(w)) {
            return OUTSIDE;
        }
        World tried = weeks.world;
        tried.becomeLike(now);
        for (int hours = 0; hours <= SOON_HOURS; hours++) {
            if (tried.wouldCarry(thing)) {
                return hours;
            }
            tried.turnVanes(w);
        }
        return NONE;
    }

    public int agenda(int row, int n) {
        if (n < 2 || n > COMPASS || !agendas.readRow(row, n)) {
            return OUTSIDE;
        }
        return agendas.leftOf(now, n);
    }

    public int can(int thing, int what) {
        if (!isWay(thing)) {
            return UNKNOWN;
        }
        if (!isUpTo(what, 1)) {
            return OUTSIDE;
        }
        if (what == 1) {
            return Integer.bitCount(Agendas.beatenBy(now, thing));
        }
        return agendas.canBeLeft(now, thing) ? 1 : 0;
    }

    public int ways(int n, int what) {
        if (n < 1 || n > COMPASS || !isUpTo(what, 1)) {
            return OUTSIDE;
        }
        return what == 0 ? pointings.count(now, n) : pointings.fewest(now);
    }

    // ---- 4 stuck, oil, everywhere

    public int seen(int thing, boolean agreed) {
        if (!isWay(thing)) {
            return UNKNOWN;
        }
        if (now.sights >= MOST_SIGHTS) {
            return FULL;
        }
        now.see(thing, agreed);
        return now.sights;
    }

    public int forget() {
        int before = now.sights;
        now.sights = 0;
        now.agreedTo = 0;
        now.refused = 0;
        return before;
    }

    public int stuck(int i) {
        return i == -1 ? Guesses.count(now) : Guesses.tell(now, i);
    }

    public int ask(int what) {
        if (!isUpTo(what, 1)) {
            return OUTSIDE;
        }
        guesses.choose(now);
        return what == 0 ? guesses.thing : guesses.left;
    }

    public int drops(int n, int what) {
        if (!isUpTo(n, MOST_DROPS) || !isUpTo(what, 1)) {
            return OUTSIDE;
        }
        int take = squares.leastWinningTake(n);
        if (what == 1) {
            return take;
        }
        return take == NONE ? 0 : 1;
    }

    public long everywhere(int m, int n, int what, int part) {
        if (m < 1 || m > COMPASS || !isUpTo(n, MOST_CHANCE_HOURS)) {
            return LOST + OUTSIDE;
        }
        if (!isUpTo(what, 1) || !isUpTo(part, 1)) {
            return LOST + OUTSIDE;
        }
        if (what == 0) {
            chances.countHours(m, n);
        } else {
            chances.countMean(m);
        }
        return chances.inLowestTerms(part);
    }

    public int year(int seed, int m, int what) {
        if (!isUpTo(seed, LAST_SEED) || m < 1 || m > MOST_DRAWS || !isUpTo(what, 2)) {
            return OUTSIDE;
        }
        weeks.drawYear(now, seed, m);
        World last = weeks.world;
        if (what == 0) {
            return Integer.bitCount(last.held);
        }
        return what == 1 ? last.tiredInAll() : last.oil;
    }

    public int image(int n) {
        if (!isUpTo(n, 1)) {
            return OUTSIDE;
        }
        imageOf(n).becomeLike(now);
        kept = withBit(kept, n, true);
        return 1;
    }

    public int restore(int n) {
        if (!isUpTo(n, 1)) {
            return OUTSIDE;
        }
        if (!hasBit(kept, n)) {
            return STATE;
        }
        now.becomeLike(imageOf(n));
        return 1;
    }

    public int told(int what) {
        if (what < 10) {
            return tellOfAll(what);
        }
        int parish = what % 10;
        if (what > 49 || !isParish(parish)) {
            return OUTSIDE;
        }
        if (what < 20) {
            return now.near[parish];
        }
        return now.isThere(parish) ? now.tell(parish, what / 10 - 2) : OUTSIDE;
    }

    private int tellOfAll(int what) {
        switch (what) {
            case 0: return pad.length;
            case 1: return now.there;
            case 2: return now.held;
            case 3: return now.wind;
            case 4: return now.oil;
            case 5: return now.hour;
            case 6: return now.sights;
            default: return OUTSIDE;
        }
    }

    private World imageOf(int n) {
        return n == 0 ? image0 : image1;
    }

    private static boolean isUpTo(int number, int most) {
        return number >= 0 && number <= most;
    }

    private static boolean isParish(int parish) {
        return isUpTo(parish, PARISHES - 1);
    }

    /** THINGS are numbered as the ways are, so this tests both. */
    private static boolean isWay(int way) {
        return isUpTo(way, LAST_WAY);
    }

    private static boolean hasBit(int bits, int place) {
        return (bits >> place & 1) != 0;
    }

    private static int withBit(int bits, int place, boolean is) {
        return is ? bits | 1 << place : bits & ~(1 << place);
    }

    private static int apart(int one, int other) {
        int eastwards = one - other & LAST_WAY;
        return Math.min(eastwards, COMPASS - eastwards);
    }

    /** All that an IMAGE keeps. */
    private static final class World {
        private final int[] points = new int[PARISHES];
        private final int[] tired = new int[PARISHES];
        private final int[] near = new int[PARISHES];
        private int there;
        private int free;
        private int held;
        private int wind;
        private int oil = 5;
        private int hour;
        // What a SIGHT rules out does not hang on its turn, so sets and a number are enough.
        private int sights;
        private int agreedTo;
        private int refused;

        void becomeLike(World other) {
            for (int parish = 0; parish < PARISHES; parish++) {
                points[parish] = other.points[parish];
                tired[parish] = other.tired[parish];
                near[parish] = other.near[parish];
            }
            there = other.there;
            free = other.free;
            held = other.held;
            wind = other.wind;
            oil = other.oil;
            hour = other.hour;
            sights = other.sights;
            agreedTo = other.agreedTo;
            refused = other.refused;
        }

        void settle(int parish, int way, boolean isFree, int isTired) {
            if (isParish(parish)) {
                there = withBit(there, parish, true);
                points[parish] = way;
                free = withBit(free, parish, isFree);
                tired[parish] = isTired;
            }
        }

        void see(int thing, boolean agreed) {
            sights++;
            if (agreed) {
                agreedTo = withBit(agreedTo, thing, true);
            } else {
                refused = withBit(refused, thing, true);
            }
        }

        boolean isThere(int parish) {
            return parish >= 0 && parish < PARISHES && (there >> parish & 1) != 0;
        }

        int parishesThere() {
            return Integer.bitCount(there);
        }

        int pairsOfNeighbours() {
            int both = 0;
            for (int parish = 0; parish < PARISHES; parish++) {
                both += Integer.bitCount(near[parish]);
            }
            return both / 2;
        }

        /** Of a PARISH that is there: 0 where it points, 1 how tired, 2 whether free. */
        int tell(int parish, int what) {
            if (!isThere(parish)) {
                return UNKNOWN;
            }
            if (what == 0) {
                return points[parish];
            }
            if (what == 1) {
                return tired[parish];
            }
            return hasBit(free, parish) ? 1 : 0;
        }

        int agreeing(int thing) {
            int bits = 0;
            for (int parish = 0; parish < PARISHES; parish++) {
                if (isThere(parish) && apart(points[parish], thing) <= 1) {
                    bits = withBit(bits, parish, true);
                }
            }
            return bits;
        }

        boolean wouldCarry(int thing) {
            return 2 * Integer.bitCount(agreeing(thing)) > parishesThere();
        }

        int mostTired() {
            int found = NONE;
            int most = -1;
            for (int parish = 0; parish < PARISHES; parish++) {
                if (isThere(parish) && tired[parish] > most) {
                    found = parish;
                    most = tired[parish];
                }
            }
            return found;
        }

        int tiredInAll() {
            int sum = 0;
            for (int parish = 0; parish < PARISHES; parish++) {
                sum += isThere(parish) ? tired[parish] : 0;
            }
            return sum;
        }

        /** The least reason for which an ACT can not be; 0: it can. */
        int reasonAgainst(int kind, int parish, int number) {
            switch (kind) {
                case OILING:
                case STICKING:
                case BY_HAND: return reasonAgainstTouching(kind, parish, number);
                case BLOWING: return wind == number ? 5 : 0;
                case VOTING: return there == 0 ? 6 : 0;
                default: return hour >= LAST_HOUR ? 7 : 0;
            }
        }

        private int reasonAgainstTouching(int kind, int parish, int number) {
            if (!isThere(parish)) {
                return 1;
            }
            // Only oil is for a vane that is stuck.
            if (hasBit(free, parish) == (kind == OILING)) {
                return 2;
            }
            if (kind == BY_HAND && points[parish] == number) {
                return 3;
            }
            return kind == OILING && oil <= 0 ? 4 : 0;
        }

        /** Does an ACT against which there is no reason. */
        void carryOut(int kind, int parish, int number) {
            switch (kind) {
                case OILING:
                    free = withBit(free, parish, true);
                    oil--;
                    break;
                case STICKING:
                    free = withBit(free, parish, false);
                    break;
                case BY_HAND:
                    turnByHand(parish, number);
                    break;
                case BLOWING:
                    wind = number;
                    break;
                case VOTING:
                    held = withBit(held, number, wouldCarry(number));
                    break;
                default:
                    turnVanes(wind);
                    hour++;
                    break;
            }
        }

        private void turnByHand(int parish, int way) {
            if (isThere(parish)) {
                points[parish] = way;
            }
        }

        /** What an hour of wind does; the hour itself is not counted, for SOON goes beyond the last. */
        void turnVanes(int from) {
            for (int parish = 0; parish < PARISHES; parish++) {
                if (!isThere(parish)) {
                    continue;
                }
                if (hasBit(free, parish) && points[parish] != from) {
                    points[parish] = nearer(points[parish], from);
                    tired[parish] = Math.min(MOST_TIRED, tired[parish] + 1);
                } else {
                    tired[parish] = Math.max(0, tired[parish] - 1);
                }
            }
        }

        private static int nearer(int way, int goal) {
            int eastwards = goal - way & LAST_WAY;
            int step = eastwards <= HALF_TURN ? 1 : -1;
            return way + step & LAST_WAY;
        }
    }

    /** The signs of WEEKS, and the ACTS that were read from them. */
    private static final class Pad {
        private final int[] signs = new int[MOST_SIGNS];
        private int length;
        private final int[] kinds = new int[MOST_SIGNS];
        private final int[] parishes = new int[MOST_SIGNS];
        private final int[] numbers = new int[MOST_SIGNS];
        private int acts;

        boolean write(int sign) {
            if (length >= MOST_SIGNS) {
                return false;
            }
            signs[length] = sign;
            length++;
            return true;
        }

        /** Reads the ACTS anew: THE FAULT, or NONE. */
        int read() {
            acts = 0;
            int head = 0;
            for (int place = 0; place < length && place < MOST_SIGNS; place++) {
                int sign = signs[place];
                if (head != 0) {
                    int kind = kindOf(head, sign);
                    if (kind == NONE) {
                        return place;
                    }
                    addAct(kind, head - 'A', sign - '0');
                    head = 0;
                } else if (sign == '.') {
                    addAct(HOUR, 0, 0);
                } else if (isHead(sign)) {
                    head = sign;
                } else {
                    return place;
                }
            }
            return head == 0 ? NONE : length;
        }

        private static boolean isHead(int sign) {
            return isParish(sign - 'A') || sign == 'w' || sign == 'v';
        }

        /** The kind of the ACT of two signs; NONE: the second can not stand there. */
        private static int kindOf(int head, int sign) {
            boolean digit = isWay(sign - '0');
            if (head == 'w') {
                return digit ? BLOWING : NONE;
            }
            if (head == 'v') {
                return digit ? VOTING : NONE;
            }
            if (sign == '*') {
                return OILING;
            }
            if (sign == '#') {
                return STICKING;
            }
            return digit ? BY_HAND : NONE;
        }

        private void addAct(int kind, int parish, int number) {
            if (acts < MOST_SIGNS) {
                kinds[acts] = kind;
                parishes[acts] = parish;
                numbers[acts] = number;
                acts++;
            }
        }
    }

    /** ACTS that are tried on a copy, so that nothing is DONE in fact. */
    private static final class Weeks {
        private final World world = new World();
        private int acts;
        private int heldAct;
        private int heldThing;

        /** Tries the ACTS up to the first that can not be: the reason; 0: there is none; NO: there is a FAULT. */
        int tryAll(Pad pad, World from) {
            if (pad.read() != NONE) {
                return NO;
            }
            startFrom(from);
            int reason = 0;
            for (int act = 0; act < pad.acts && act < MOST_SIGNS && reason == 0; act++) {
                reason = tryAct(pad.kinds[act], pad.parishes[act], pad.numbers[act]);
            }
            return reason;
        }

        /** Draws the ACTS of A YEAR and passes over those that can not be. */
        void drawYear(World from, int seed, int draws) {
            startFrom(from);
            int x = seed;
            for (int draw = 0; draw < draws; draw++) {
                x = (75 * x + 74) % 65537;
                int kind = Math.min(x / 7 % 8, HOUR);
                tryAct(kind, x % 7, x / 56 % 8);
            }
        }

        private void startFrom(World from) {
            world.becomeLike(from);
            acts = 0;
            heldAct = NONE;
            heldThing = NONE;
        }

        /** Does an ACT if it can be: the reason if not; 0. */
        private int tryAct(int kind, int parish, int number) {
            int reason = world.reasonAgainst(kind, parish, number);
            if (reason != 0) {
                return reason;
            }
            int before = world.held;
            world.carryOut(kind, parish, number);
            if (heldAct == NONE && (world.held & ~before) != 0) {
                heldAct = acts;
                heldThing = number;
            }
            acts++;
            return 0;
        }
    }

    /** What is left, if THINGS are voted on one after another. */
    private static final class Agendas {
        private final int[] row = new int[COMPASS];
        private final int[] beaten = new int[COMPASS];

        /** Takes a row of n THINGS (2 to 8) from its digits: whether it is one. */
        boolean readRow(int digits, int n) {
            int rest = digits;
            int things = 0;
            for (int place = Math.min(n, COMPASS) - 1; place >= 0; place--) {
                int thing = rest % 10;
                if (!isWay(thing)) {
                    return false;
                }
                row[place] = thing;
                things = withBit(things, thing, true);
                rest /= 10;
            }
            return rest == 0 && Integer.bitCount(things) == n;
        }

        int leftOf(World world, int n) {
            int left = row[0];
            for (int place = 1; place < n && place < COMPASS; place++) {
                if (!beats(world, left, row[place])) {
                    left = row[place];
                }
            }
            return left;
        }

        /** One of two always BEATS the other, so a THING can be left just if beating leads from it to all. */
        boolean canBeLeft(World world, int thing) {
            for (int other = 0; other < COMPASS; other++) {
                beaten[other] = beatenBy(world, other);
            }
            int reached = withBit(0, thing, true);
            for (int round = 0; round < COMPASS; round++) {
                for (int other = 0; other < COMPASS; other++) {
                    reached |= hasBit(reached, other) ? beaten[other] : 0;
                }
            }
            return reached == ALL_THINGS;
        }

        static int beatenBy(World world, int thing) {
            int bits = 0;
            for (int other = 0; other < COMPASS; other++) {
                bits = withBit(bits, other, other != thing && beats(world, thing, other));
            }
            return bits;
        }

        private static boolean beats(World world, int one, int other) {
            int margin = 0;
            for (int parish = 0; parish < PARISHES; parish++) {
                if (world.isThere(parish)) {
                    int points = world.points[parish];
                    margin += Integer.compare(apart(points, other), apart(points, one));
                }
            }
            return margin > 0 || margin == 0 && one < other;
        }
    }

    /** In how many ways all VANES could POINT so that no two NEIGHBOURS POINT alike. */
    private static final class Pointings {
        // For each way the PARISHES that are let POINT there; each step clears what it has set.
        private final int[] pointing = new int[COMPASS];

        int count(World world, int n) {
            return countFrom(world, pointing, 0, 0, n);
        }

        int fewest(World world) {
            int n = world.there == 0 ? 0 : 1;
            while (n < PARISHES && count(world, n) == 0) {
                n++;
            }
            return n;
        }

        /** The ways not used yet are all alike, so one of them is tried and counted for all. */
        private static int countFrom(World world, int[] pointing, int parish, int used, int n) {
            if (!isParish(parish)) {
                return 1;
            }
            if (!world.isThere(parish)) {
                return countFrom(world, pointing, parish + 1, used, n);
            }
            int sum = 0;
            for (int way = 0; way <= used && way < n && way < COMPASS; way++) {
                if ((pointing[way] & world.near[parish]) != 0) {
                    continue;
                }
                pointing[way] = withBit(pointing[way], parish, true);
                int rest = countFrom(world, pointing, parish + 1, Math.max(used, way + 1), n);
                pointing[way] = withBit(pointing[way], parish, false);
                sum += way == used ? (n - used) * rest : rest;
            }
            return sum;
        }
    }

    /** Where a VANE may POINT and how far its PARISH agrees, by the SIGHTS. */
    private static final class Guesses {
        private final int[] agreeing = new int[COMPASS];
        private int thing;
        private int left;

        static int count(World world) {
            int fitting = 0;
            for (int guess = 0; guess < COMPASS * REACHES; guess++) {
                fitting += fits(world, guess) ? 1 : 0;
            }
            return fitting;
        }

        /** The i-th guess that fits, as it is told; NONE. */
        static int tell(World world, int i) {
            int passed = 0;
            for (int guess = 0; guess < COMPASS * REACHES; guess++) {
                if (fits(world, guess)) {
                    if (passed == i) {
                        return 10 * (guess / REACHES) + guess % REACHES;
                    }
                    passed++;
                }
            }
            return NONE;
        }

        /** Chooses the THING to ask about next. */
        void choose(World world) {
            int fitting = countAgreeing(world);
            thing = NONE;
            left = NONE;
            for (int asked = 0; asked < COMPASS && fitting > 0; asked++) {
                int most = Math.max(agreeing[asked], fitting - agreeing[asked]);
                if (thing == NONE || most < left) {
                    thing = asked;
                    left = most;
                }
            }
        }

        /** Counts for each THING the fitting guesses that agree to it: how many fit in all. */
        private int countAgreeing(World world) {
            int fitting = 0;
            for (int asked = 0; asked < COMPASS; asked++) {
                agreeing[asked] = 0;
            }
            for (int guess = 0; guess < COMPASS * REACHES; guess++) {
                if (fits(world, guess)) {
                    fitting++;
                    int things = thingsOf(guess);
                    for (int asked = 0; asked < COMPASS; asked++) {
                        agreeing[asked] += things >> asked & 1;
                    }
                }
            }
            return fitting;
        }

        private static boolean fits(World world, int guess) {
            int things = thingsOf(guess);
            return (world.agreedTo & ~things) == 0 && (world.refused & things) == 0;
        }

        private static int thingsOf(int guess) {
            int points = guess / REACHES;
            int reach = guess % REACHES;
            int things = 0;
            for (int step = -reach; step <= reach; step++) {
                things = withBit(things, points + step & LAST_WAY, true);
            }
            return things;
        }
    }

    /** Drops of OIL that two take by turns, a square each time. */
    private static final class Squares {
        // Who begins with so many drops can take so many and win; kept, for it never changes.
        private final int[] takes = new int[MOST_DROPS + 1];
        private int known;

        int leastWinningTake(int drops) {
            if (!isUpTo(drops, MOST_DROPS)) {
                return NONE;
            }
            for (; known <= drops; known++) {
                takes[known] = findTake(known);
            }
            return takes[drops];
        }

        private int findTake(int drops) {
            for (int side = 1; side * side <= drops; side++) {
                int square = side * side;
                if (takes[drops - square] == NONE) {
                    return square;
                }
            }
            return NONE;
        }
    }

    /** EVERYWHERE, as a fraction. */
    private static final class Chances {
        // All of 1 to 8 divide it.
        private static final int COMMON = 840;

        private final long[] courses = new long[COMPASS + 1];
        private long upper;
        private long lower;

        /** Of all courses of n hours, those that have been to all m ways. */
        void countHours(int m, int n) {
            int ways = Math.max(0, Math.min(m, COMPASS));
            for (int been = 0; been <= COMPASS; been++) {
                courses[been] = 0;
            }
            courses[0] = 1;
            lower = 1;
            for (int hour = 0; hour < n; hour++) {
                for (int been = ways; been > 0; been--) {
                    courses[been] = been * courses[been] + (ways - been + 1) * courses[been - 1];
                }
                courses[0] = 0;
                lower *= ways;
            }
            upper = courses[ways];
        }

        /** While k of m ways are left, the next new one takes m / k hours in the mean. */
        void countMean(int m) {
            upper = 0;
            lower = COMMON;
            for (int left = 1; left <= m; left++) {
                upper += m * (COMMON / left);
            }
        }

        long inLowestTerms(int part) {
            long divisor = commonDivisor(upper, lower);
            if (divisor == 0) {
                return LOST;
            }
            return part == 0 ? upper / divisor : lower / divisor;
        }

        private static long commonDivisor(long one, long other) {
            long a = one;
            long b = other;
            for (int step = 0; step < 1000 && b != 0; step++) {
                long rest = a % b;
                a = b;
                b = rest;
            }
            return a;
        }
    }
}
