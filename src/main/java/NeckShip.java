import java.util.Arrays;

/**
 * A model ship that goes through a bottle's neck with its masts lying, and the threads that raise them.
 *
 * Sets of spars and of threads are held as numbers, bit n standing for number n. Every row is made with
 * the object, so that no call makes anything.
 */
public final class NeckShip {
    public static final int UNKNOWN = -1, OUTSIDE = -2, STATE = -3, FULL = -4, NONE = -9;
    public static final long LOST = Long.MIN_VALUE;

    private static final int NULL = 1, CAST = 2, INDEX = 3, SIZE = 4;
    private static final int NOT_REFUSED = 0;

    private static final int LENGTH = 0, BEAM = 1, DEPTH = 2, WIDTH = 3, HEIGHT = 4;
    private static final int[] GREATEST_MEASURE = {100, 60, 60, 60, 60};

    private static final int PLAIN_SPAR = 0, MAST = 1, BOWSPRIT = 2;
    private static final int LONGEST = 60, THICKEST = 9;
    private static final int NUMBERS_OF_A_SPAR = 5;
    private static final int BEYOND_HULL = 20;
    private static final int LEAST_PLACE = -100, GREATEST_PLACE = 200;

    private final int[] measures = {50, 10, 5, 20, 20};
    private final Spars spars = new Spars();
    private final Threads threads = new Threads();
    private final Sheet[] sheets = {new Sheet(), new Sheet(), new Sheet(), new Sheet()};
    private final Rising reached = new Rising();
    private int traced = 0;
    private int latestFault = 0;

    public NeckShip() {
    }

    // ---- 1 ships

    public int rule(int what, int v) {
        if (what < LENGTH || what > HEIGHT) {
            return UNKNOWN;
        }
        if (!isWithin(v, 1, GREATEST_MEASURE[what])) {
            return OUTSIDE;
        }
        if (what == LENGTH && isTooShort(v)) {
            return STATE;
        }
        int was = measures[what];
        measures[what] = v;
        return was;
    }

    public int spar(int kind, int foot, int length, int thick, int way) {
        int refusal = refusalOfSpar(kind, foot, length, thick, way, spars.count);
        if (refusal != NOT_REFUSED) {
            return refusal;
        }
        return spars.add(kind, foot, length, thick, way);
    }

    public int plan(int k, int lane, int i, int n) {
        latestFault = 0;
        if (!isSheet(k)) {
            return UNKNOWN;
        }
        if (!Sheet.isLane(lane)) {
            return OUTSIDE;
        }
        Sheet from = sheets[k];
        int found = faultOfPlan(from, lane, i, n);
        if (found != 0) {
            return failed(found);
        }
        for (int j = 0; j < n; j++) {
            int refusal = refusalOfPlanned(from.cells, i + NUMBERS_OF_A_SPAR * j, spars.count + j);
            if (refusal != NOT_REFUSED) {
                return refusal;
            }
        }
        for (int j = 0; j < n; j++) {
            addPlanned(from.cells, i + NUMBERS_OF_A_SPAR * j);
        }
        return spars.count;
    }

    public int about(int s, int what) {
        if (!spars.has(s)) {
            return UNKNOWN;
        }
        switch (what) {
            case 0: return spars.kind[s];
            case 1: return spars.foot[s];
            case 2: return spars.length[s];
            case 3: return spars.thick[s];
            case 4: return spars.way[s];
            case 5: return oneIf(spars.isUp(s));
            case 6: return oneIf(spars.isUp(s) && threads.raisersOf(s) != 0);
            case 7: return oneIf(spars.mayRise(s, spars.up, threads.raised()));
            case 8: return Integer.bitCount(threads.raisersOf(s));
            case 9: return Integer.bitCount(spars.over[s] & spars.lying());
            default: return OUTSIDE;
        }
    }

    public int over(int a, int b) {
        if (!spars.has(a) || !spars.has(b)) {
            return UNKNOWN;
        }
        return oneIf(isIn(spars.over[a], b));
    }

    public int stack(int u) {
        if (!isWithin(u, LEAST_PLACE, GREATEST_PLACE)) {
            return OUTSIDE;
        }
        return measures[DEPTH] + spars.thickAt(u);
    }

    public int fits(int what) {
        int greatest = measures[DEPTH] + spars.greatestThick();
        switch (what) {
            case 0: return oneIf(greatest <= measures[HEIGHT] && measures[BEAM] <= measures[WIDTH]);
            case 1: return greatest;
            case 2: return slices();
            default: return OUTSIDE;
        }
    }

    // ---- 2 threads

    public int thread(int hole, int s, int place) {
        if (!spars.has(s)) {
            return UNKNOWN;
        }
        if (!isWithin(hole, -BEYOND_HULL, measures[LENGTH] + BEYOND_HULL) || !isWithin(place, 1, spars.length[s])) {
            return OUTSIDE;
        }
        boolean behind = (hole - spars.foot[s]) * spars.way[s] < 0;
        return threads.add(hole, s, place, spars.foot[s], behind);
    }

    public int cut(int t) {
        if (!threads.has(t)) {
            return UNKNOWN;
        }
        int was = oneIf(isIn(threads.whole, t));
        threads.whole &= ~(1 << t);
        return was;
    }

    public int threaded(int t, int what) {
        if (!threads.has(t)) {
            return UNKNOWN;
        }
        switch (what) {
            case 0: return threads.hole[t];
            case 1: return threads.spar[t];
            case 2: return threads.place[t];
            case 3: return oneIf(isIn(threads.whole, t));
            case 4: return oneIf(isIn(threads.raising(), t));
            case 5: return Integer.bitCount(threads.crossing[t] & threads.whole);
            default: return OUTSIDE;
        }
    }

    public int cross(int t, int u) {
        if (!threads.has(t) || !threads.has(u)) {
            return UNKNOWN;
        }
        return oneIf(isIn(threads.crossing[t], u));
    }

    public int raise(int s) {
        if (!spars.has(s)) {
            return UNKNOWN;
        }
        if (!spars.mayRise(s, spars.up, threads.raised())) {
            return STATE;
        }
        spars.up |= 1 << s;
        return Integer.bitCount(spars.up);
    }

    public int lay(int s) {
        if (!spars.has(s)) {
            return UNKNOWN;
        }
        if (!spars.mayBeLaid(s)) {
            return STATE;
        }
        spars.up &= ~(1 << s);
        return Integer.bitCount(spars.lying());
    }

    public int settle() {
        int falling = spars.up & ~threads.raised();
        spars.up &= ~falling;
        return Integer.bitCount(falling);
    }

    public int order(int i) {
        int many = Integer.bitCount(spars.lying());
        if (i < 0 || i >= many) {
            return UNKNOWN;
        }
        int up = spars.up;
        int raised = threads.raised();
        int asked = NONE;
        for (int step = 0; step < many; step++) {
            int next = spars.nextOfOrder(up, raised);
            if (next == NONE) {
                return NONE;
            }
            if (step == i) {
                asked = next;
            }
            up |= 1 << next;
        }
        return asked;
    }

    public int rising(int what) {
        if (what < 0 || what > 2) {
            return OUTSIDE;
        }
        reached.search(spars, threads.raised());
        switch (what) {
            case 0: return reached.sets;
            case 1: return reached.most;
            default: return reached.some;
        }
    }

    // ---- 3 rigs

    public int rig() {
        if (spars.count == 0) {
            return STATE;
        }
        return leastRig(threads, spars.count, 0, 0);
    }

    // ---- 4 sheets, parts

    public int sheet(int k, int lane, int n) {
        latestFault = 0;
        if (!isSheet(k)) {
            return UNKNOWN;
        }
        if (!Sheet.isLane(lane) || n > Sheet.MOST) {
            return OUTSIDE;
        }
        if (n < 0) {
            return failed(SIZE);
        }
        sheets[k].renew(lane, n);
        return 1;
    }

    public int lose(int k) {
        if (!isSheet(k)) {
            return UNKNOWN;
        }
        int had = oneIf(!sheets[k].hasNothing());
        sheets[k].empty();
        return had;
    }

    public int put(int k, int i, int v) {
        latestFault = 0;
        if (!isSheet(k)) {
            return UNKNOWN;
        }
        Sheet to = sheets[k];
        if (to.hasNothing()) {
            return failed(NULL);
        }
        if (!to.hasCells(i, 1)) {
            return failed(INDEX);
        }
        to.cells[i] = to.cutToLane(v);
        return 1;
    }

    public long cell(int k, int i, int lane) {
        latestFault = 0;
        if (!isSheet(k) || !Sheet.isLane(lane)) {
            return LOST;
        }
        Sheet from = sheets[k];
        int found = from.faultAsLane(lane);
        if (found == 0 && !from.hasCells(i, 1)) {
            found = INDEX;
        }
        if (found != 0) {
            latestFault = found;
            return LOST;
        }
        return from.cells[i];
    }

    public int copy(int k, int i, int other, int j, int n) {
        latestFault = 0;
        if (!isSheet(k) || !isSheet(other)) {
            return UNKNOWN;
        }
        Sheet from = sheets[k];
        Sheet to = sheets[other];
        if (from.hasNothing() || to.hasNothing()) {
            return failed(NULL);
        }
        if (from.lane != to.lane) {
            return failed(CAST);
        }
        if (!from.hasCells(i, n) || !to.hasCells(j, n)) {
            return failed(INDEX);
        }
        System.arraycopy(from.cells, i, to.cells, j, n);
        return n;
    }

    public int tell(int s) {
        if (!spars.has(s)) {
            return UNKNOWN;
        }
        switch (spars.kind[s]) {
            case MAST: return mastBody(s);
            case BOWSPRIT: return bowspritBody(s);
            default: return sparBody(s);
        }
    }

    public int name(int s) {
        if (!spars.has(s)) {
            return UNKNOWN;
        }
        return spars.kind[s] == BOWSPRIT ? bowspritNameBody() : lentNameBody(s);
    }

    public int as(int s, int kind) {
        latestFault = 0;
        if (!spars.has(s)) {
            return UNKNOWN;
        }
        if (!isWithin(kind, PLAIN_SPAR, BOWSPRIT)) {
            return OUTSIDE;
        }
        // Each kind is one of all kinds below it too.
        return spars.kind[s] < kind ? failed(CAST) : 1;
    }

    public int trace() {
        return traced;
    }

    public int fault() {
        return latestFault;
    }

    public int told(int what) {
        switch (what) {
            case 0: return spars.count;
            case 1: return threads.count;
            case 2: return Integer.bitCount(spars.up);
            case 3: return Integer.bitCount(spars.up & threads.raised());
            case 4: return Integer.bitCount(threads.whole);
            case 5: return threads.wholePairsThatCross();
            default: return OUTSIDE;
        }
    }

    // ---- what the calls share

    private static int oneIf(boolean holds) {
        return holds ? 1 : 0;
    }

    private static boolean isWithin(int v, int least, int greatest) {
        return v >= least && v <= greatest;
    }

    private static boolean isIn(int set, int number) {
        return ((set >> number) & 1) == 1;
    }

    private boolean isSheet(int k) {
        return k >= 0 && k < sheets.length;
    }

    private int failed(int found) {
        latestFault = found;
        return -10 - found;
    }

    private boolean isTooShort(int length) {
        return length < spars.greatestFoot() || length + BEYOND_HULL < threads.greatestHole();
    }

    /** before: how many spars have come ahead of this one. */
    private int refusalOfSpar(int kind, int foot, int length, int thick, int way, int before) {
        boolean asTold = isWithin(kind, PLAIN_SPAR, BOWSPRIT)
                && isWithin(foot, 0, measures[LENGTH])
                && isWithin(length, 1, LONGEST)
                && isWithin(thick, 1, THICKEST)
                && (way == 1 || way == -1);
        if (!asTold) {
            return OUTSIDE;
        }
        return before >= Spars.MOST ? FULL : NOT_REFUSED;
    }

    private static int faultOfPlan(Sheet from, int lane, int i, int n) {
        int found = from.faultAsLane(lane);
        if (found != 0) {
            return found;
        }
        if (n < 0) {
            return SIZE;
        }
        // The first test keeps the product from wrapping.
        return n > Sheet.MOST || !from.hasCells(i, NUMBERS_OF_A_SPAR * n) ? INDEX : 0;
    }

    private int refusalOfPlanned(int[] cells, int i, int before) {
        return refusalOfSpar(cells[i], cells[i + 1], cells[i + 2], cells[i + 3], cells[i + 4], before);
    }

    private void addPlanned(int[] cells, int i) {
        spars.add(cells[i], cells[i + 1], cells[i + 2], cells[i + 3], cells[i + 4]);
    }

    private int slices() {
        int width = Math.max(1, measures[WIDTH]);
        return (measures[BEAM] + width - 1) / width;
    }

    /** The least rig of many spars that has the chosen threads for all of them ahead of s; NONE. */
    private static int leastRig(Threads threads, int many, int s, int chosen) {
        if (s >= many) {
            return chosen;
        }
        int raisers = threads.raisersOf(s);
        int least = NONE;
        for (int t = 0; t < threads.count; t++) {
            if (isIn(raisers, t) && (threads.crossing[t] & chosen) == 0) {
                int found = leastRig(threads, many, s + 1, chosen | (1 << t));
                if (found != NONE && (least == NONE || found < least)) {
                    least = found;
                }
            }
        }
        return least;
    }

    private void beginBody(int number) {
        traced = 31 * traced + number;
    }

    private int sparBody(int s) {
        beginBody(1);
        return spars.length[s];
    }

    private int mastBody(int s) {
        beginBody(2);
        return sparBody(s) + spars.foot[s];
    }

    private int bowspritBody(int s) {
        beginBody(3);
        return sparBody(s) * spars.way[s];
    }

    private int lentNameBody(int s) {
        beginBody(4);
        return s + 10 * spars.thick[s];
    }

    private int bowspritNameBody() {
        beginBody(5);
        return 40;
    }

    /** The spars, which of them are up, and how they lie to one another. */
    private static final class Spars {
        static final int MOST = 10;

        final int[] kind = new int[MOST];
        final int[] foot = new int[MOST];
        final int[] length = new int[MOST];
        final int[] thick = new int[MOST];
        final int[] way = new int[MOST];
        // How spars lie to one another never changes, so it is found out once, as they come.
        final int[] over = new int[MOST];
        final int[] feetWithin = new int[MOST];
        int count = 0;
        int up = 0;

        boolean has(int s) {
            return s >= 0 && s < count;
        }

        /** Its number; FULL. */
        int add(int itsKind, int itsFoot, int itsLength, int itsThick, int itsWay) {
            if (count >= MOST) {
                return FULL;
            }
            int s = count;
            kind[s] = itsKind;
            foot[s] = itsFoot;
            length[s] = itsLength;
            thick[s] = itsThick;
            way[s] = itsWay;
            for (int earlier = 0; earlier < s; earlier++) {
                if (coverSomeLengthTogether(earlier, s)) {
                    over[earlier] |= 1 << s;
                }
                noteFootWithin(earlier, s);
                noteFootWithin(s, earlier);
            }
            count++;
            return s;
        }

        private void noteFootWithin(int coverer, int standing) {
            if (low(coverer) < foot[standing] && foot[standing] < high(coverer)) {
                feetWithin[coverer] |= 1 << standing;
            }
        }

        private boolean coverSomeLengthTogether(int a, int b) {
            return Math.max(low(a), low(b)) < Math.min(high(a), high(b));
        }

        private int low(int s) {
            return Math.min(foot[s], foot[s] + way[s] * length[s]);
        }

        private int high(int s) {
            return Math.max(foot[s], foot[s] + way[s] * length[s]);
        }

        int lying() {
            return ((1 << count) - 1) & ~up;
        }

        boolean isUp(int s) {
            return isIn(up, s);
        }

        int greatestFoot() {
            int greatest = 0;
            for (int s = 0; s < count; s++) {
                greatest = Math.max(greatest, foot[s]);
            }
            return greatest;
        }

        int thickAt(int u) {
            int sum = 0;
            for (int s = 0; s < count; s++) {
                if (!isUp(s) && low(s) <= u && u < high(s)) {
                    sum += thick[s];
                }
            }
            return sum;
        }

        int greatestThick() {
            int greatest = 0;
            // Going upward along the hull the sum grows only where a lying spar begins.
            for (int s = 0; s < count; s++) {
                if (!isUp(s)) {
                    greatest = Math.max(greatest, thickAt(low(s)));
                }
            }
            return greatest;
        }

        /** Whether it may rise if those of upThen are up; raised: the spars that some thread raises. */
        boolean mayRise(int s, int upThen, int raised) {
            return !isIn(upThen, s)
                    && isIn(raised, s)
                    && (over[s] & ~upThen) == 0
                    && (feetWithin[s] & upThen) == 0;
        }

        boolean mayBeLaid(int s) {
            return isUp(s) && (feetWithin[s] & up) == 0 && (over[s] & lying()) == 0;
        }

        /**
         * The spar that the first order raises next; NONE. The least that may rise is right each time, as it
         * takes no order away: its foot can bar only a spar that covers some length together with it. If that
         * one has the greater number, it lies over this one and so is up already; if the lesser, this one
         * lies over it, so that it can rise neither ahead of this one nor after it, and no order was left.
         */
        int nextOfOrder(int upThen, int raised) {
            for (int s = 0; s < count; s++) {
                if (mayRise(s, upThen, raised)) {
                    return s;
                }
            }
            return NONE;
        }
    }

    /** The threads, which of them are whole, and which cross. */
    private static final class Threads {
        static final int MOST = 16;

        final int[] hole = new int[MOST];
        final int[] spar = new int[MOST];
        final int[] place = new int[MOST];
        final int[] foot = new int[MOST];
        final int[] crossing = new int[MOST];
        int behind = 0;
        int whole = 0;
        int count = 0;

        boolean has(int t) {
            return t >= 0 && t < count;
        }

        /** Its number; FULL. */
        int add(int itsHole, int itsSpar, int itsPlace, int itsFoot, boolean isBehind) {
            if (count >= MOST) {
                return FULL;
            }
            int t = count;
            hole[t] = itsHole;
            spar[t] = itsSpar;
            place[t] = itsPlace;
            foot[t] = itsFoot;
            for (int earlier = 0; earlier < t; earlier++) {
                if (haveInnerPointInCommon(earlier, t)) {
                    crossing[earlier] |= 1 << t;
                    crossing[t] |= 1 << earlier;
                }
            }
            whole |= 1 << t;
            if (isBehind) {
                behind |= 1 << t;
            }
            count++;
            return t;
        }

        private boolean haveInnerPointInCommon(int t, int u) {
            int holeSide = sideOf(t, hole[u], 0);
            int placeSide = sideOf(t, foot[u], place[u]);
            // In one line: as both begin at height 0, they begin in one hole and go the same way.
            if (holeSide == 0 && placeSide == 0) {
                return true;
            }
            return areApart(holeSide, placeSide)
                    && areApart(sideOf(u, hole[t], 0), sideOf(u, foot[t], place[t]));
        }

        /** Above 0 on one side of the line along thread t, below 0 on the other, 0 on it. */
        private int sideOf(int t, int x, int y) {
            return (foot[t] - hole[t]) * y - place[t] * (x - hole[t]);
        }

        private static boolean areApart(int side, int otherSide) {
            return (side < 0 && otherSide > 0) || (side > 0 && otherSide < 0);
        }

        int raising() {
            return whole & behind;
        }

        int raisersOf(int s) {
            int set = 0;
            for (int t = 0; t < count; t++) {
                if (spar[t] == s) {
                    set |= 1 << t;
                }
            }
            return set & raising();
        }

        /** The spars that some thread raises. */
        int raised() {
            int set = 0;
            for (int t = 0; t < count; t++) {
                if (isIn(raising(), t)) {
                    set |= 1 << spar[t];
                }
            }
            return set;
        }

        int greatestHole() {
            int greatest = -BEYOND_HULL;
            for (int t = 0; t < count; t++) {
                greatest = Math.max(greatest, hole[t]);
            }
            return greatest;
        }

        int wholePairsThatCross() {
            int ends = 0;
            for (int t = 0; t < count; t++) {
                if (isIn(whole, t)) {
                    ends += Integer.bitCount(crossing[t] & whole);
                }
            }
            return ends / 2;
        }
    }

    /** The sets of spars that can come to be up by rising alone. */
    private static final class Rising {
        // A bit for each set of spars: a row of 1024 would have to be cleared at each search.
        private final int[] bits = new int[1 << (Spars.MOST - 5)];
        int sets = 0;
        int most = 0;
        int some = 0;

        void search(Spars spars, int raised) {
            Arrays.fill(bits, 0);
            sets = 0;
            most = 0;
            some = 0;
            mark(spars.up);
            // Rising makes a set's number greater, so one way through the numbers meets all.
            for (int set = spars.up; set < (1 << spars.count); set++) {
                if (isMarked(set)) {
                    count(set);
                    markNextOf(set, spars, raised);
                }
            }
        }

        private void count(int set) {
            sets++;
            most = Math.max(most, Integer.bitCount(set));
            some |= set;
        }

        private void markNextOf(int set, Spars spars, int raised) {
            for (int s = 0; s < spars.count; s++) {
                if (spars.mayRise(s, set, raised)) {
                    mark(set | (1 << s));
                }
            }
        }

        private void mark(int set) {
            bits[set >> 5] |= 1 << (set & 31);
        }

        private boolean isMarked(int set) {
            return isIn(bits[set >> 5], set & 31);
        }
    }

    /** A row of numbers of a lane, or nothing. */
    private static final class Sheet {
        static final int MOST = 50;
        private static final int BYTES = 0, SHORTS = 1, INTS = 2, NOTHING = -1;

        final int[] cells = new int[MOST];
        int lane = NOTHING;
        int size = 0;

        static boolean isLane(int lane) {
            return isWithin(lane, BYTES, INTS);
        }

        boolean hasNothing() {
            return lane == NOTHING;
        }

        void empty() {
            lane = NOTHING;
            size = 0;
        }

        void renew(int newLane, int newSize) {
            lane = newLane;
            size = newSize;
            Arrays.fill(cells, 0);
        }

        boolean hasCells(int from, int many) {
            return from >= 0 && many >= 0 && many <= size - from;
        }

        /** The fault that is come to if this is taken as a row of a lane; 0. */
        int faultAsLane(int asLane) {
            if (hasNothing()) {
                return NULL;
            }
            return lane != asLane ? CAST : 0;
        }

        int cutToLane(int v) {
            switch (lane) {
                case BYTES: return (byte) v;
                case SHORTS: return (short) v;
                default: return v;
            }
        }
    }
}
