import java.util.Arrays;

/** Slow, medium, fast: a bath, its lanes and signs, who swims where; ../shared/DOC.md says what each call answers. */
public final class SwimLanes {
    public static final int NONE = -1, BAD = -2, NO = -3, FULL = -4;

    private static final int BAD_TEN = -10;
    private static final int NOT_SO_MANY = -5;

    private static final int LANES = 4;
    private static final int SIGNS = 3;
    private static final int SWIMMERS = 7;
    private static final int KINDS = 6;
    private static final int LEAST_PACE = 20;
    private static final int GREATEST_PACE = 90;
    private static final int LAST_MINUTE = 999;
    private static final int MOST_MINUTES = 60;
    private static final int MOST_CHANGES = 60;
    private static final int MOST_APART = 600;
    private static final int MOST_LENGTHS = 9;
    private static final int TENTHS = 10;
    private static final int IMAGES = 2;
    private static final int MORE_THAN_ALL = 1000000;
    private static final int[] SIGNS_AT_FIRST = {0, 1, 1, 2};

    private final Bath bath;
    private final Bath draft;
    private final Bath[] images = new Bath[IMAGES];
    private final int[] trial = new int[Bath.ROW];
    private final Plan plan = new Plan();
    private final Text text = new Text();
    private final long[] ways = new long[MOST_LENGTHS + 1];
    private long above = 0;
    private long below = 1;
    private int bads = 0;
    private int noes = 0;
    private int fulls = 0;

    public SwimLanes() {
        Plain[] kinds = {new Plain(), new Overtakes(), new Proud(), new Wall(), new Chats(), new Sprints()};
        bath = new Bath(kinds);
        draft = new Bath(kinds);
    }

    // ---- a bath

    public int bath() {
        int were = bath.swimmers;
        bath.begin();
        return were;
    }

    public int sign(int lane, int n) {
        if (!isLane(lane) || !within(n, 0, SIGNS - 1)) {
            return bad();
        }
        int was = bath.signs[lane];
        bath.signs[lane] = n;
        return was;
    }

    public int shut(int lane, int is) {
        if (!isLane(lane) || !within(is, 0, 1)) {
            return bad();
        }
        if (is == 1 && bath.members(bath.now, lane) != 0) {
            return no();
        }
        int was = bath.shuts[lane];
        bath.shuts[lane] = is;
        bath.undoable = 0;
        return was;
    }

    public int one(int kind, int pace, int lane) {
        if (!isKind(kind) || !isPace(pace) || !isLane(lane)) {
            return bad();
        }
        if (!bath.isOpen(lane)) {
            return no();
        }
        if (bath.swimmers >= SWIMMERS) {
            return full();
        }
        return bath.comes(kind, pace, lane);
    }

    public int type(int c) {
        if (!within(c, 0, 127)) {
            return bad();
        }
        if (text.size >= Text.BYTES) {
            return full();
        }
        return text.add(c);
    }

    public int clear() {
        int had = text.size;
        text.size = 0;
        return had;
    }

    public int read() {
        int items = text.tellTo(draft);
        if (items == NONE) {
            return -10 - text.start;
        }
        bath.becomes(draft);
        return items;
    }

    // ---- minutes

    public int goes(int p, int lane) {
        if (!isOne(p) || !isLane(lane)) {
            return bad();
        }
        if (!bath.isOpen(lane)) {
            return no();
        }
        int was = bath.laneOf(p);
        bath.keepForUndo();
        bath.now[Bath.LANE + p] = lane;
        return was;
    }

    public int minute(int n) {
        if (!within(n, 1, MOST_MINUTES)) {
            return bad();
        }
        bath.keepForUndo();
        int swum = 0;
        for (int i = 0; i < n; i++) {
            swum += bath.minuteGoesBy(bath.now);
        }
        return swum;
    }

    public int undo() {
        if (bath.undoable <= 0) {
            return no();
        }
        bath.takeBack();
        return bath.now[Bath.MINUTE];
    }

    public int of(int p, int what) {
        if (!isOne(p)) {
            return bad();
        }
        switch (what) {
            case 0: return bath.kindOf[p];
            case 1: return bath.paceOf[p];
            case 2: return bath.laneOf(p);
            case 3: return bath.now[Bath.LENGTHS + p];
            case 4: return bath.now[Bath.LEFT + p];
            case 5: return bath.believedBy(p);
            default: return bad();
        }
    }

    public int lane(int l, int what) {
        if (!isLane(l)) {
            return bad();
        }
        switch (what) {
            case 0: return bath.signs[l];
            case 1: return bath.shuts[l];
            case 2: return bath.members(bath.now, l);
            default: return bad();
        }
    }

    // ---- which lane

    public int seconds(int p, int lane, int what) {
        if (!isOne(p) || !isLane(lane)) {
            return bad();
        }
        int others = bath.others(bath.now, p, lane);
        switch (what) {
            case 0: return bath.takes(p, others);
            case 1: return bath.slowerThan(p, others);
            case 2: return Integer.bitCount(others);
            default: return bad();
        }
    }

    public int lengths(int p, int m) {
        if (!isOne(p) || !within(m, 0, MOST_MINUTES)) {
            return bad();
        }
        return bath.now[Bath.LENGTHS + p] + lengthsToCome(p, m);
    }

    public int best(int p) {
        return isOne(p) ? bath.quickestLane(bath.now, p) : bad();
    }

    public int cost(int p, int lane) {
        if (!isOne(p) || !isLane(lane)) {
            return bad();
        }
        if (!bath.isOpen(lane)) {
            return no();
        }
        return bath.costTo(bath.others(bath.now, p, lane), p);
    }

    public int where(int p) {
        return isOne(p) ? cheapestLane(p) : bad();
    }

    public int obey(int what) {
        if (!within(what, 0, 1)) {
            return bad();
        }
        int obeying = 0;
        for (int p = 0; p < bath.swimmers; p++) {
            int pace = what == 0 ? bath.paceOf[p] : bath.believedBy(p);
            if (bath.signs[bath.laneOf(p)] == signOf(pace)) {
                obeying |= 1 << p;
            }
        }
        return obeying;
    }

    public int all(int p) {
        if (p != NONE && !isOne(p)) {
            return badAsTen();
        }
        plan.begin();
        plan.place(bath, 0, 0);
        return p == NONE ? plan.least : plan.first[p];
    }

    public int changes(int p) {
        if (p != NONE && !isOne(p)) {
            return badAsTen();
        }
        System.arraycopy(bath.now, 0, trial, 0, Bath.ROW);
        int changed = changeTillNobodyWould(trial);
        return p == NONE ? changed : trial[Bath.LANE + p];
    }

    public int order(int lane, int g, int n, int i) {
        if (!isLane(lane) || !within(g, 0, 60) || !within(n, 1, MOST_LENGTHS) || i < NONE) {
            return badAsTen();
        }
        int members = bath.members(bath.now, lane);
        if (i == NONE) {
            return ordersOf(members, g, n);
        }
        if (i >= Integer.bitCount(members)) {
            return NOT_SO_MANY;
        }
        return starter(members, g, n, i);
    }

    public int apart(int lane, int n) {
        if (!isLane(lane) || !within(n, 1, MOST_LENGTHS)) {
            return bad();
        }
        int least = leastApart(bath.members(bath.now, lane), n);
        return least > MOST_APART ? NONE : least;
    }

    // ---- how quick

    public int note(int p, int t, int s, int n, int m) {
        if (!isOne(p) || !within(t, 1, 200) || !within(s, 0, GREATEST_PACE)) {
            return bad();
        }
        if (!within(n, 0, SWIMMERS - 1) || !within(m, 0, SWIMMERS - 1)) {
            return bad();
        }
        if (bath.noted >= Bath.NOTES) {
            return full();
        }
        return bath.writeDown(p, t, s, n, m);
    }

    public int forget() {
        int were = bath.noted;
        bath.noted = 0;
        return were;
    }

    public int is(int p, int what) {
        if (!isOne(p) || !within(what, 0, 1)) {
            return bad();
        }
        return what == 0 ? kindsThatFit(p) : pacesThatFit(p);
    }

    public int look(int p) {
        return isOne(p) ? tellingLane(p, kindsThatFit(p)) : bad();
    }

    public int touch(int a, int b) {
        if (!isOne(a) || !isOne(b) || a == b) {
            return bad();
        }
        if (bath.laneOf(a) != bath.laneOf(b)) {
            return no();
        }
        boolean quicker = bath.paceOf[b] < bath.paceOf[a];
        int resting = 0;
        for (int pair = 0; pair < 4; pair++) {
            if (rests((pair & 1) != 0, (pair & 2) != 0, quicker)) {
                resting |= 1 << pair;
            }
        }
        return resting;
    }

    public int counts(int n, int k, int c) {
        if (!within(n, 0, MOST_LENGTHS) || !within(k, 0, MOST_LENGTHS) || !within(c, 0, TENTHS)) {
            return bad();
        }
        countWays(n, c);
        above = 0;
        for (int counted = k; counted <= n; counted++) {
            above += ways[counted];
        }
        lowerTerms(n);
        return 1;
    }

    public int mornings(int seed, int n) {
        if (!within(seed, 0, 999999) || !within(n, 0, 60)) {
            return bad();
        }
        if (bath.swimmers <= 0) {
            return no();
        }
        System.arraycopy(bath.now, 0, trial, 0, Bath.ROW);
        long x = seed;
        int swum = 0;
        for (int i = 0; i < n; i++) {
            x = afterwards(x);
            int p = (int) (x / 65536 % bath.swimmers);
            x = afterwards(x);
            int l = (int) (x / 65536 % LANES);
            if (bath.isOpen(l)) {
                trial[Bath.LANE + p] = l;
            }
            swum += bath.minuteGoesBy(trial);
        }
        return swum;
    }

    // ---- what there is

    public long part(int what) {
        switch (what) {
            case 0: return above;
            case 1: return below;
            default: return bad();
        }
    }

    public int image(int i) {
        if (!within(i, 0, IMAGES - 1)) {
            return bad();
        }
        if (images[i] == null) {
            images[i] = new Bath(bath.kinds);
        }
        images[i].becomes(bath);
        return 1;
    }

    public int from(int i) {
        if (!within(i, 0, IMAGES - 1)) {
            return bad();
        }
        if (images[i] == null) {
            return no();
        }
        bath.becomes(images[i]);
        return 1;
    }

    public int status(int what) {
        switch (what) {
            case 0: return bads;
            case 1: return noes;
            case 2: return fulls;
            default:
                bad();
                return -1;
        }
    }

    public int count(int what) {
        return within(what, 0, 6) ? howMany(what) : bad();
    }

    public long digest() {
        long h = 1279;
        for (int what = 0; what <= 6; what++) {
            h = 31 * h + howMany(what);
        }
        h = bath.digestFrom(h);
        h = 31 * h + above;
        return 31 * h + below;
    }

    // ---- what is refused

    private int bad() {
        bads++;
        return BAD;
    }

    /** Where NONE and the like are answers of their own, the document tells BAD as another number. */
    private int badAsTen() {
        bad();
        return BAD_TEN;
    }

    private int no() {
        noes++;
        return NO;
    }

    private int full() {
        fulls++;
        return FULL;
    }

    private boolean isOne(int p) {
        return p >= 0 && p < bath.swimmers;
    }

    private static boolean isLane(int l) {
        return within(l, 0, LANES - 1);
    }

    private static boolean isKind(int k) {
        return within(k, 0, KINDS - 1);
    }

    private static boolean isPace(int pace) {
        return within(pace, LEAST_PACE, GREATEST_PACE);
    }

    private static boolean within(int x, int from, int to) {
        return x >= from && x <= to;
    }

    private static boolean has(int members, int p) {
        return (members >> p & 1) != 0;
    }

    // ---- what the calls need

    private int howMany(int what) {
        switch (what) {
            case 0: return bath.swimmers;
            case 1: return bath.now[Bath.MINUTE];
            case 2: return bath.openLanes();
            case 3: return bath.lengthsOfAll();
            case 4: return bath.noted;
            case 5: return bath.undoable;
            default: return text.size;
        }
    }

    private static int signOf(int pace) {
        if (pace >= 60) {
            return 0;
        }
        return pace < 40 ? 2 : 1;
    }

    /** Without a minute even seconds enough for a length, left over from a slower lane, are none. */
    private int lengthsToCome(int p, int m) {
        int each = bath.takesIn(bath.now, p, bath.laneOf(p));
        return m == 0 || each <= 0 ? 0 : (bath.now[Bath.LEFT + p] + 60 * m) / each;
    }

    private int cheapestLane(int p) {
        for (int l = 0; l < LANES; l++) {
            bath.perLane[l] = bath.costTo(bath.others(bath.now, p, l), p);
        }
        return bath.leastOpenLane();
    }

    /** It ends when nobody has changed for a whole round; the bound is what the most changes can need. */
    private int changeTillNobodyWould(int[] row) {
        int changed = 0;
        int still = 0;
        int p = 0;
        int mostTurns = (MOST_CHANGES + 1) * SWIMMERS;
        for (int turn = 0; turn < mostTurns && still < bath.swimmers && changed < MOST_CHANGES; turn++) {
            int to = bath.quickestLane(row, p);
            still++;
            if (to != NONE && bath.takesIn(row, p, to) < bath.takesIn(row, p, row[Bath.LANE + p])) {
                row[Bath.LANE + p] = to;
                changed++;
                still = 0;
            }
            p = p + 1 < bath.swimmers ? p + 1 : 0;
        }
        return changed;
    }

    private static long afterwards(long x) {
        return (x * 1103515245L + 12345L) % 2147483648L;
    }

    // ---- in what order to start

    /**
     * The slowest one of an order that stands can be taken out of it, and what is left stands; put back in, it may
     * stand last or right ahead of any that does not catch up with it. So, rising by pace, the places multiply.
     */
    private int ordersOf(int members, int g, int n) {
        int orders = 1;
        for (int p = 0; p < bath.swimmers; p++) {
            if (has(members, p)) {
                orders *= placesFor(p, members, g, n);
            }
        }
        return orders;
    }

    private int placesFor(int p, int members, int g, int n) {
        int places = 1;
        for (int q = 0; q < bath.swimmers; q++) {
            if (has(members, q) && ranksBelow(q, p) && mayFollow(q, p, g, n)) {
                places++;
            }
        }
        return places;
    }

    private boolean ranksBelow(int q, int p) {
        int less = bath.paceOf[q] - bath.paceOf[p];
        return less < 0 || less == 0 && q < p;
    }

    private boolean mayFollow(int behind, int ahead, int g, int n) {
        return n * (bath.paceOf[ahead] - bath.paceOf[behind]) <= g;
    }

    private int starter(int members, int g, int n, int i) {
        int left = members;
        int ahead = NONE;
        for (int place = 0; place <= i && place < SWIMMERS; place++) {
            ahead = nextStarter(left, ahead, g, n);
            if (ahead == NONE) {
                return NONE;
            }
            left &= ~(1 << ahead);
        }
        return ahead;
    }

    private int nextStarter(int left, int ahead, int g, int n) {
        for (int p = 0; p < bath.swimmers; p++) {
            boolean fits = has(left, p) && (ahead == NONE || mayFollow(p, ahead, g, n));
            if (fits && restMayFollow(p, left, g, n)) {
                return p;
            }
        }
        return NONE;
    }

    /**
     * Behind p those who are slower can always come last, rising; the quicker ones can come, falling, just if none
     * of the steps down from p is too large: each must have one above it, not slower than p, whom it may follow.
     */
    private boolean restMayFollow(int p, int left, int g, int n) {
        for (int q = 0; q < bath.swimmers; q++) {
            if (has(left, q) && bath.paceOf[q] < bath.paceOf[p] && !hasStepAbove(q, p, left, g, n)) {
                return false;
            }
        }
        return true;
    }

    private boolean hasStepAbove(int q, int p, int left, int g, int n) {
        for (int r = 0; r < bath.swimmers; r++) {
            boolean between = bath.paceOf[r] > bath.paceOf[q] && bath.paceOf[r] <= bath.paceOf[p];
            if (has(left, r) && between && mayFollow(q, r, g, n)) {
                return true;
            }
        }
        return false;
    }

    private int leastApart(int members, int n) {
        int least = 0;
        int ahead = NONE;
        for (int p = 0; p < bath.swimmers; p++) {
            if (has(members, p)) {
                if (ahead != NONE) {
                    least = Math.max(least, n * (bath.paceOf[ahead] - bath.paceOf[p]));
                }
                ahead = p;
            }
        }
        return least;
    }

    // ---- what one is

    private int kindsThatFit(int p) {
        int fitting = 0;
        for (int k = 0; k < KINDS; k++) {
            if (bath.notesFit(p, k, bath.paceOf[p])) {
                fitting |= 1 << k;
            }
        }
        return fitting;
    }

    private int pacesThatFit(int p) {
        int fitting = 0;
        for (int pace = LEAST_PACE; pace <= GREATEST_PACE; pace++) {
            if (bath.notesFit(p, bath.kindOf[p], pace)) {
                fitting++;
            }
        }
        return fitting;
    }

    private int tellingLane(int p, int fitting) {
        if (fitting == 0) {
            return NONE;
        }
        for (int l = 0; l < LANES; l++) {
            bath.perLane[l] = mostAlike(p, fitting, bath.others(bath.now, p, l));
        }
        return bath.leastOpenLane();
    }

    private int mostAlike(int p, int fitting, int others) {
        int most = 0;
        for (int k = 0; k < KINDS; k++) {
            if (has(fitting, k)) {
                most = Math.max(most, howManyAlike(p, fitting, others, bath.takesAs(k, p, others)));
            }
        }
        return most;
    }

    private int howManyAlike(int p, int fitting, int others, int seconds) {
        int alike = 0;
        for (int k = 0; k < KINDS; k++) {
            if (has(fitting, k) && bath.takesAs(k, p, others) == seconds) {
                alike++;
            }
        }
        return alike;
    }

    // ---- feet touched, counts lost

    private static boolean rests(boolean touches, boolean lets, boolean quicker) {
        return toToucher(touches, lets) >= toToucher(!touches, lets)
            && toTouched(touches, lets, quicker) >= toTouched(touches, !lets, quicker);
    }

    private static int toToucher(boolean touches, boolean lets) {
        if (lets) {
            return touches ? 1 : 2;
        }
        return touches ? -1 : 0;
    }

    private static int toTouched(boolean touches, boolean lets, boolean quicker) {
        if (lets) {
            return 0;
        }
        return touches && !quicker ? -1 : 1;
    }

    /** Of all 10 to the n ways, equally likely, those by which just so many lengths are counted. */
    private void countWays(int n, int c) {
        Arrays.fill(ways, 0);
        ways[0] = 1;
        for (int length = 0; length < n; length++) {
            for (int counted = MOST_LENGTHS; counted > 0; counted--) {
                ways[counted] = ways[counted] * c + ways[counted - 1] * (TENTHS - c);
            }
            ways[0] *= c;
        }
    }

    /** Below stands 10 to the n: nothing but 2 and 5, n times each, can be common to both. */
    private void lowerTerms(int n) {
        below = 1;
        for (int i = 0; i < n; i++) {
            below *= TENTHS;
        }
        for (int i = 0; i < n; i++) {
            lowerBy(2);
            lowerBy(5);
        }
    }

    private void lowerBy(int prime) {
        if (prime > 0 && above % prime == 0 && below % prime == 0) {
            above /= prime;
            below /= prime;
        }
    }

    // ---- kinds, each under the one that it extends

    private static class Plain {
        int takes(int p, int s, int n, int m) {
            return Math.max(p, s) + m;
        }

        int believes(int p) {
            return p;
        }
    }

    private static class Overtakes extends Plain {
        int takes(int p, int s, int n, int m) {
            return p + 3 * n;
        }
    }

    private static class Proud extends Plain {
        int believes(int p) {
            return super.believes(p) - 15;
        }
    }

    private static final class Wall extends Plain {
        int takes(int p, int s, int n, int m) {
            return p;
        }
    }

    private static final class Chats extends Proud {
        int takes(int p, int s, int n, int m) {
            return super.takes(p, s, n, m) + (m >= 1 ? 5 : 0);
        }
    }

    private static final class Sprints extends Overtakes {
        int takes(int p, int s, int n, int m) {
            return p + (super.takes(p, s, n, m) - p) / 2;
        }

        int believes(int p) {
            return super.believes(p) - 5;
        }
    }

    /** What an image keeps: all but images, the text, the fraction and the status. */
    private static final class Bath {
        /** A row is what UNDO brings back: the minute, then lanes, lengths and seconds left over of all. */
        private static final int MINUTE = 0;
        private static final int LANE = 1;
        private static final int LENGTHS = LANE + SWIMMERS;
        private static final int LEFT = LENGTHS + SWIMMERS;
        private static final int ROW = LEFT + SWIMMERS;
        private static final int UNDOABLE = 8;
        private static final int NOTES = 6;
        private static final int NOTE = 5;

        private final Plain[] kinds;
        private final int[] signs = new int[LANES];
        private final int[] shuts = new int[LANES];
        private final int[] kindOf = new int[SWIMMERS];
        private final int[] paceOf = new int[SWIMMERS];
        private final int[] now = new int[ROW];
        private final int[] past = new int[UNDOABLE * ROW];
        private final int[] notes = new int[NOTES * NOTE];
        /** Written anew by each call that compares lanes: no part of what the bath is. */
        private final int[] perLane = new int[LANES];
        private int swimmers;
        private int undoable;
        private int noted;

        private Bath(Plain[] kinds) {
            this.kinds = kinds;
            begin();
        }

        private void begin() {
            System.arraycopy(SIGNS_AT_FIRST, 0, signs, 0, LANES);
            Arrays.fill(shuts, 0);
            Arrays.fill(now, 0);
            swimmers = 0;
            undoable = 0;
            noted = 0;
        }

        private void becomes(Bath other) {
            System.arraycopy(other.signs, 0, signs, 0, LANES);
            System.arraycopy(other.shuts, 0, shuts, 0, LANES);
            System.arraycopy(other.kindOf, 0, kindOf, 0, SWIMMERS);
            System.arraycopy(other.paceOf, 0, paceOf, 0, SWIMMERS);
            System.arraycopy(other.now, 0, now, 0, ROW);
            System.arraycopy(other.past, 0, past, 0, UNDOABLE * ROW);
            System.arraycopy(other.notes, 0, notes, 0, NOTES * NOTE);
            swimmers = other.swimmers;
            undoable = other.undoable;
            noted = other.noted;
        }

        private int comes(int kind, int pace, int lane) {
            int p = swimmers;
            if (p >= SWIMMERS) {
                return NONE;
            }
            kindOf[p] = kind;
            paceOf[p] = pace;
            now[LANE + p] = lane;
            swimmers = p + 1;
            undoable = 0;
            return p;
        }

        private void keepForUndo() {
            if (undoable >= UNDOABLE) {
                System.arraycopy(past, ROW, past, 0, (UNDOABLE - 1) * ROW);
                undoable = UNDOABLE - 1;
            }
            System.arraycopy(now, 0, past, undoable * ROW, ROW);
            undoable++;
        }

        private void takeBack() {
            if (undoable > 0) {
                undoable--;
                System.arraycopy(past, undoable * ROW, now, 0, ROW);
            }
        }

        private boolean isOpen(int l) {
            return shuts[l] == 0;
        }

        private int openLanes() {
            int open = 0;
            for (int l = 0; l < LANES; l++) {
                if (isOpen(l)) {
                    open++;
                }
            }
            return open;
        }

        private int laneOf(int p) {
            return now[LANE + p];
        }

        private int lengthsOfAll() {
            int sum = 0;
            for (int p = 0; p < swimmers; p++) {
                sum += now[LENGTHS + p];
            }
            return sum;
        }

        private int believedBy(int p) {
            return kinds[kindOf[p]].believes(paceOf[p]);
        }

        private int members(int[] row, int lane) {
            int members = 0;
            for (int p = 0; p < swimmers; p++) {
                if (row[LANE + p] == lane) {
                    members |= 1 << p;
                }
            }
            return members;
        }

        private int others(int[] row, int p, int lane) {
            return members(row, lane) & ~(1 << p);
        }

        private int takesIn(int[] row, int p, int lane) {
            return takesAs(kindOf[p], p, others(row, p, lane));
        }

        private int takes(int p, int others) {
            return takesAs(kindOf[p], p, others);
        }

        private int takesAs(int kind, int p, int others) {
            return kinds[kind].takes(paceOf[p], greatestPace(others), slowerThan(p, others), Integer.bitCount(others));
        }

        private int greatestPace(int members) {
            int greatest = 0;
            for (int p = 0; p < swimmers; p++) {
                if (has(members, p)) {
                    greatest = Math.max(greatest, paceOf[p]);
                }
            }
            return greatest;
        }

        private int slowerThan(int p, int others) {
            int slower = 0;
            for (int q = 0; q < swimmers; q++) {
                if (has(others, q) && paceOf[q] > paceOf[p]) {
                    slower++;
                }
            }
            return slower;
        }

        /** What p, who is none of them, costs these, coming to them. */
        private int costTo(int members, int p) {
            int more = 0;
            for (int q = 0; q < swimmers; q++) {
                if (has(members, q)) {
                    int others = members & ~(1 << q);
                    more += takes(q, others | 1 << p) - takes(q, others);
                }
            }
            return more;
        }

        private int quickestLane(int[] row, int p) {
            for (int l = 0; l < LANES; l++) {
                perLane[l] = takesIn(row, p, l);
            }
            return leastOpenLane();
        }

        private int leastOpenLane() {
            int least = NONE;
            for (int l = 0; l < LANES; l++) {
                if (isOpen(l) && (least == NONE || perLane[l] < perLane[least])) {
                    least = l;
                }
            }
            return least;
        }

        private int minuteGoesBy(int[] row) {
            if (row[MINUTE] >= LAST_MINUTE) {
                return 0;
            }
            row[MINUTE]++;
            int swum = 0;
            for (int p = 0; p < swimmers; p++) {
                swum += swimsAMinute(row, p);
            }
            return swum;
        }

        private int swimsAMinute(int[] row, int p) {
            int each = takesIn(row, p, row[LANE + p]);
            int seconds = row[LEFT + p] + 60;
            int swum = each > 0 ? seconds / each : 0;
            row[LENGTHS + p] += swum;
            row[LEFT + p] = seconds - swum * each;
            return swum;
        }

        private int writeDown(int p, int t, int s, int n, int m) {
            if (noted >= NOTES) {
                return NONE;
            }
            int at = noted * NOTE;
            notes[at] = p;
            notes[at + 1] = t;
            notes[at + 2] = s;
            notes[at + 3] = n;
            notes[at + 4] = m;
            noted++;
            return noted;
        }

        private boolean notesFit(int p, int kind, int pace) {
            for (int i = 0; i < noted; i++) {
                int at = i * NOTE;
                int seconds = kinds[kind].takes(pace, notes[at + 2], notes[at + 3], notes[at + 4]);
                if (notes[at] == p && notes[at + 1] != seconds) {
                    return false;
                }
            }
            return true;
        }

        private long digestFrom(long start) {
            long h = start;
            for (int l = 0; l < LANES; l++) {
                h = 31 * h + signs[l];
                h = 31 * h + shuts[l];
            }
            for (int p = 0; p < swimmers; p++) {
                h = 31 * h + kindOf[p];
                h = 31 * h + paceOf[p];
                h = 31 * h + now[LANE + p];
                h = 31 * h + now[LENGTHS + p];
                h = 31 * h + now[LEFT + p];
            }
            for (int i = 0; i < noted * NOTE; i++) {
                h = 31 * h + notes[i];
            }
            return h;
        }
    }

    /** The lanes by which all together need least: the first such way, tried in rising order. */
    private static final class Plan {
        private final int[] members = new int[LANES];
        private final int[] tried = new int[SWIMMERS];
        private final int[] first = new int[SWIMMERS];
        private int least;

        private void begin() {
            Arrays.fill(members, 0);
            least = MORE_THAN_ALL;
        }

        /**
         * No one more makes a sum less, so what is no better already is left. Lanes are alike but for who is in
         * them: behind the first empty one all are empty, too, and give nothing better.
         */
        private void place(Bath bath, int p, int sum) {
            if (sum >= least) {
                return;
            }
            if (p >= bath.swimmers || p >= SWIMMERS) {
                least = sum;
                System.arraycopy(tried, 0, first, 0, SWIMMERS);
                return;
            }
            boolean wasEmpty = false;
            for (int l = 0; l < LANES && !wasEmpty; l++) {
                if (bath.isOpen(l)) {
                    int others = members[l];
                    wasEmpty = others == 0;
                    tried[p] = l;
                    members[l] = others | 1 << p;
                    place(bath, p + 1, sum + bath.takes(p, others) + bath.costTo(others, p));
                    members[l] = others;
                }
            }
        }
    }

    /** The text, and the bath that it tells. */
    private static final class Text {
        private static final int BYTES = 150;
        private static final int WORD = 1;
        private static final int FIGURES = 2;
        private static final int OTHER = 3;

        private final char[] bytes = new char[BYTES];
        private int size = 0;
        /** The token that was looked at last; its start is the fault, if it can't stand there (the size at the end). */
        private int start = 0;
        private int end = 0;

        private int add(int c) {
            if (size < BYTES) {
                bytes[size] = (char) c;
                size++;
            }
            return size;
        }

        /** How many items were told; NONE: the token at start can't stand there. */
        private int tellTo(Bath draft) {
            draft.begin();
            end = 0;
            next();
            if (!isWord("bath") || !nextEndsItem()) {
                return NONE;
            }
            for (int items = 1; items <= BYTES; items++) {
                next();
                if (start >= size) {
                    return items;
                }
                if (!tellItem(draft) || !nextEndsItem()) {
                    return NONE;
                }
            }
            return NONE;
        }

        private boolean tellItem(Bath draft) {
            if (isWord("sign")) {
                return tellSign(draft);
            }
            if (isWord("shut")) {
                return tellShut(draft);
            }
            return isWord("one") && draft.swimmers < SWIMMERS && tellOne(draft);
        }

        private boolean tellSign(Bath draft) {
            int l = nextNumber();
            if (!isLane(l)) {
                return false;
            }
            int n = nextNumber();
            if (!within(n, 0, SIGNS - 1)) {
                return false;
            }
            draft.signs[l] = n;
            return true;
        }

        private boolean tellShut(Bath draft) {
            int l = nextNumber();
            if (!isLane(l) || draft.members(draft.now, l) != 0) {
                return false;
            }
            draft.shuts[l] = 1;
            return true;
        }

        private boolean tellOne(Bath draft) {
            int kind = nextNumber();
            if (!isKind(kind)) {
                return false;
            }
            int pace = nextNumber();
            if (!isPace(pace)) {
                return false;
            }
            int l = nextNumber();
            return isLane(l) && draft.isOpen(l) && draft.comes(kind, pace, l) != NONE;
        }

        private void next() {
            start = end;
            while (start < size && bytes[start] == ' ') {
                start++;
            }
            end = start;
            if (end < size) {
                int sort = sortAt(end);
                end++;
                while (end < size && sort != OTHER && sortAt(end) == sort) {
                    end++;
                }
            }
        }

        private int sortAt(int place) {
            char c = bytes[place];
            if (c >= 'a' && c <= 'z') {
                return WORD;
            }
            return c >= '0' && c <= '9' ? FIGURES : OTHER;
        }

        private boolean isWord(String word) {
            if (end - start != word.length()) {
                return false;
            }
            for (int i = 0; i < word.length(); i++) {
                if (bytes[start + i] != word.charAt(i)) {
                    return false;
                }
            }
            return true;
        }

        private boolean nextEndsItem() {
            next();
            return start < size && bytes[start] == ';';
        }

        /** NONE, which is no number as told anywhere, if the token is none or too long a run. */
        private int nextNumber() {
            next();
            int figures = end - start;
            if (figures < 1 || figures > 2 || sortAt(start) != FIGURES) {
                return NONE;
            }
            int number = 0;
            for (int i = start; i < end; i++) {
                number = 10 * number + (bytes[i] - '0');
            }
            return number;
        }
    }
}
