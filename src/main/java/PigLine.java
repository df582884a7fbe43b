/**
 * A long pipe felt from within. What each call promises stands in the document
 * (../shared/DOC.md); the numbers in the headings below are its promises.
 *
 * No call makes an object: every row is made once, in the constructors, and used again.
 * What can be derived (WAYS, THE MATCH, GROUPS, THE PLAN) is worked out anew by the call
 * that asks for it, so that nothing derived can ever be out of date.
 */
public final class PigLine {
    public static final int NONE = -1, BAD = -2, FULL = -3, NOT = -4;

    private static final int NULL = 1, INDEX = 2, CAST = 3, STORE = 4, SIZE = 5;
    private static final int LEAST_INT = -2147483648;

    private static final int BYTES = 0, SHORTS = 1, INTS = 2;
    private static final int REELS_OF_A_RUN = 4;
    private static final int MAX_ITEMS = 150;
    private static final int MAX_READING = 30000;
    private static final int MAX_FELT = 60;

    private static final int MAX_JOINTS = 40;
    private static final int MAX_JOINT_LENGTH = 100000;
    private static final int MAX_LEFT_OUT_COST = 1000000;

    private static final int MAX_MARKS = 40;
    private static final int MAX_MARK_WAY = 4000000;
    private static final int HOURS = 12;
    private static final int MAX_DEPTH = 100;
    private static final int MAX_MARK_LENGTH = 10000;
    private static final int MAX_GAP = 100000;
    private static final int MAX_TURN = 6;

    private static final int MAX_IN_JOINT = 5;
    private static final int HOUR_COST = 100;
    private static final int MAX_ALONE = 100000;
    private static final int MAX_SPAN = 50;
    private static final int MAX_TOOL = 50;
    private static final int MAX_LAST = 99;

    private static final int MAX_WORKS = 30;
    private static final int MAX_WORK_COST = 1000;
    private static final int MAX_YEAR = 8;
    private static final int MAX_SETTING = 10000;

    private static final int KICKER = 0, MAIN = 1, VENT = 2, DOOR = 3;

    private final Run firstRun;
    private final Run secondRun;
    private final Book book;
    private final Pairs pairs;
    private final Spans spans;
    private final Digs digs;
    private final Valves valves;
    private int gap;
    private int turn;
    private int latestFinding;

    public PigLine() {
        firstRun = new Run();
        secondRun = new Run();
        book = new Book();
        pairs = new Pairs();
        spans = new Spans();
        digs = new Digs();
        valves = new Valves();
        gap = 50;
        turn = 1;
        latestFinding = 0;
    }

    // ---- reels (2 to 6)

    public int reel(int r, int form, int n) {
        Reel reel = reelAt(r);
        if (reel == null || !isForm(form) || n > MAX_ITEMS) {
            return BAD;
        }
        if (n < 0) {
            return found(SIZE);
        }
        reel.begin(form, n);
        return n;
    }

    public int lose(int r) {
        Reel reel = reelAt(r);
        if (reel == null) {
            return BAD;
        }
        if (reel.isLost()) {
            return found(NULL);
        }
        int had = reel.size;
        reel.drop();
        return had;
    }

    public int put(int r, int form, int i, int v) {
        Reel reel = reelAt(r);
        if (reel == null || !isForm(form)) {
            return BAD;
        }
        int fault = reel.faultOf(form, i);
        if (fault != 0) {
            return found(fault);
        }
        reel.store(i, v);
        return 1;
    }

    public int get(int r, int form, int i) {
        Reel reel = reelAt(r);
        if (reel == null || !isForm(form)) {
            return LEAST_INT;
        }
        int fault = reel.faultOf(form, i);
        if (fault != 0) {
            found(fault);
            return LEAST_INT;
        }
        return reel.items[i];
    }

    public int copy(int r, int i, int q, int j, int n) {
        Reel from = reelAt(r);
        Reel to = reelAt(q);
        if (from == null || to == null) {
            return BAD;
        }
        if (from.isLost() || to.isLost()) {
            return found(NULL);
        }
        if (from.form != to.form) {
            return found(STORE);
        }
        if (!from.hasItems(i, n) || !to.hasItems(j, n)) {
            return found(INDEX);
        }
        System.arraycopy(from.items, i, to.items, j, n);
        return 1;
    }

    // ---- runs (7 to 9)

    public int run(int r, int what) {
        Run run = runAt(r);
        if (run == null || !isWithin(what, 0, 3)) {
            return BAD;
        }
        run.feel();
        return run.fact(what);
    }

    public int way(int r, int tick) {
        Run run = runAt(r);
        if (run == null) {
            return BAD;
        }
        run.feel();
        if (tick < 0 || tick >= run.ticks) {
            return BAD;
        }
        return run.ways[tick];
    }

    public int felt(int r, int j, int what) {
        Run run = runAt(r);
        if (run == null || !isWithin(what, 0, 1)) {
            return BAD;
        }
        run.feel();
        if (j < 0 || j >= run.feltCount) {
            return BAD;
        }
        return what == 0 ? run.starts[j] : run.lengths[j];
    }

    // ---- the book (10 to 14)

    public int joint(int length) {
        if (!isWithin(length, 1, MAX_JOINT_LENGTH)) {
            return BAD;
        }
        return book.add(length);
    }

    public int wipe() {
        int had = book.size;
        book.size = 0;
        return had;
    }

    public int costs(int missed, int extra) {
        if (!isWithin(missed, 0, MAX_LEFT_OUT_COST) || !isWithin(extra, 0, MAX_LEFT_OUT_COST)) {
            return BAD;
        }
        book.missed = missed;
        book.extra = extra;
        return 1;
    }

    public int match(int r) {
        Run run = runAt(r);
        if (run == null) {
            return BAD;
        }
        run.feel();
        return book.leastCost(run);
    }

    public int paired(int r, int j) {
        Run run = runAt(r);
        if (run == null || !book.hasJoint(j)) {
            return BAD;
        }
        run.feel();
        book.pairUp(run);
        return run.partners[j];
    }

    // ---- marks (15 to 20)

    public int mark(int r, int way, int clock, int depth, int length) {
        Run run = runAt(r);
        if (run == null || !isWithin(way, 0, MAX_MARK_WAY) || !isWithin(clock, 0, HOURS - 1)
                || !isWithin(depth, 0, MAX_DEPTH) || !isWithin(length, 0, MAX_MARK_LENGTH)) {
            return BAD;
        }
        return run.marks.add(way, clock, depth, length);
    }

    public int clear(int r) {
        Run run = runAt(r);
        if (run == null) {
            return BAD;
        }
        int had = run.marks.size;
        run.marks.size = 0;
        return had;
    }

    public int about(int r, int m, int what) {
        Run run = runAt(r);
        if (run == null || !run.marks.hasMark(m) || !isWithin(what, 0, 5)) {
            return BAD;
        }
        if (what == 4) {
            run.feel();
        }
        if (what == 5) {
            run.marks.putTogether(gap, turn);
        }
        return run.markFact(m, what);
    }

    public int near(int gap, int turn) {
        if (!isWithin(gap, 0, MAX_GAP) || !isWithin(turn, 0, MAX_TURN)) {
            return BAD;
        }
        this.gap = gap;
        this.turn = turn;
        return 1;
    }

    public int groups(int r) {
        Run run = runAt(r);
        if (run == null) {
            return BAD;
        }
        run.marks.putTogether(gap, turn);
        return run.marks.groupCount;
    }

    public int group(int r, int g, int what) {
        Run run = runAt(r);
        if (run == null || !isWithin(what, 0, 4)) {
            return BAD;
        }
        run.marks.putTogether(gap, turn);
        if (g < 0 || g >= run.marks.groupCount) {
            return BAD;
        }
        return run.marks.groupFact(g, what);
    }

    // ---- pairs (21 to 25)

    public int alone(int cost) {
        if (!isWithin(cost, 0, MAX_ALONE)) {
            return BAD;
        }
        int before = pairs.alone;
        pairs.alone = cost;
        return before;
    }

    public int pairing(int j) {
        if (!book.hasJoint(j)) {
            return BAD;
        }
        matchBothRuns();
        return pairs.leastCost(firstRun, firstRun.partners[j], secondRun, secondRun.partners[j]);
    }

    public int twin(int m) {
        if (!firstRun.marks.hasMark(m)) {
            return BAD;
        }
        return twinOf(m);
    }

    public int tool(int years, int t, int limit) {
        if (!isWithin(years, 1, MAX_SPAN) || !isWithin(t, 0, MAX_TOOL) || !isWithin(limit, 0, MAX_DEPTH)) {
            return BAD;
        }
        spans.years = years;
        spans.tool = t;
        spans.limit = limit;
        return 1;
    }

    public int growth(int m, int what) {
        if (!firstRun.marks.hasMark(m) || !isWithin(what, 0, 2)) {
            return BAD;
        }
        int other = twinOf(m);
        if (!secondRun.marks.hasMark(other)) {
            return NOT;
        }
        return spans.fact(firstRun.marks.depths[m], secondRun.marks.depths[other], what);
    }

    // ---- digs, traps (26 to 33)

    public int work(int cost, int year) {
        if (!isWithin(cost, 1, MAX_WORK_COST) || !isWithin(year, 1, MAX_YEAR)) {
            return BAD;
        }
        return digs.add(cost, year);
    }

    public int yearly(int k, int setting) {
        if (!isWithin(k, 1, MAX_WORKS) || !isWithin(setting, 0, MAX_SETTING)) {
            return BAD;
        }
        digs.perYear = k;
        digs.setting = setting;
        return 1;
    }

    public int plan() {
        int chosen = digs.bestYears();
        return chosen == NONE ? NOT : digs.costOf(chosen);
    }

    public int years() {
        int chosen = digs.bestYears();
        return chosen == NONE ? NOT : chosen;
    }

    public int when(int w) {
        if (w < 0 || w >= digs.size) {
            return BAD;
        }
        int chosen = digs.bestYears();
        return chosen == NONE ? NOT : digs.yearOf(w, chosen);
    }

    public int trap(int what, boolean open) {
        if (!isWithin(what, KICKER, DOOR)) {
            return BAD;
        }
        if (valves.isOpen(what) == open) {
            return 0;
        }
        if (!open) {
            valves.shut(what);
            return 1;
        }
        if (!valves.mayOpen(what)) {
            return NOT;
        }
        valves.open(what);
        return 1;
    }

    public int count(int what) {
        switch (what) {
            case 0:
                return book.size;
            case 1:
                return firstRun.marks.size;
            case 2:
                return secondRun.marks.size;
            case 3:
                return digs.size;
            case 4:
                return valves.openBits;
            case 5:
                return valves.pressed ? 1 : 0;
            case 6:
                return latestFinding;
            default:
                return BAD;
        }
    }

    public long digest() {
        long h = 17;
        for (int what = 0; what <= 5; what++) {
            h = 31 * h + count(what);
        }
        h = digestOfRun(h, firstRun);
        return digestOfRun(h, secondRun);
    }

    // ---- what several calls share

    private static boolean isWithin(int number, int least, int most) {
        return number >= least && number <= most;
    }

    private static boolean isForm(int form) {
        return isWithin(form, BYTES, INTS);
    }

    private static int hoursApart(int clock, int other) {
        int apart = Math.abs(clock - other);
        return Math.min(apart, HOURS - apart);
    }

    private int found(int finding) {
        latestFinding = finding;
        return -10 - finding;
    }

    private Run runAt(int r) {
        if (r == 0) {
            return firstRun;
        }
        return r == 1 ? secondRun : null;
    }

    private Reel reelAt(int r) {
        if (r < 0) {
            return null;
        }
        Run run = runAt(r / REELS_OF_A_RUN);
        return run == null ? null : run.reelAt(r % REELS_OF_A_RUN);
    }

    private void matchBothRuns() {
        firstRun.feel();
        book.pairUp(firstRun);
        secondRun.feel();
        book.pairUp(secondRun);
    }

    private int twinOf(int m) {
        matchBothRuns();
        int joint = book.jointPairedWith(firstRun, firstRun.feltAt(firstRun.marks.ways[m]));
        if (joint == NONE) {
            return NONE;
        }
        pairs.leastCost(firstRun, firstRun.partners[joint], secondRun, secondRun.partners[joint]);
        return pairs.otherOf(m);
    }

    private long digestOfRun(long before, Run run) {
        long h = before;
        run.feel();
        for (int what = 0; what <= 3; what++) {
            h = 31 * h + run.fact(what);
        }
        for (int j = 0; j < run.feltCount; j++) {
            h = 31 * h + run.lengths[j];
        }
        h = 31 * h + book.leastCost(run);
        run.marks.putTogether(gap, turn);
        for (int m = 0; m < run.marks.size; m++) {
            for (int what = 0; what <= 5; what++) {
                h = 31 * h + run.markFact(m, what);
            }
        }
        return h;
    }

    /** A REEL: its items are kept as ints, cut to its FORM when they are stored. */
    private static final class Reel {
        private static final int LOST = -1;

        final int[] items;
        int form;
        int size;

        Reel() {
            items = new int[MAX_ITEMS];
            form = LOST;
            size = 0;
        }

        boolean isLost() {
            return form == LOST;
        }

        void begin(int newForm, int n) {
            form = newForm;
            size = Math.min(n, MAX_ITEMS);
            for (int i = 0; i < size; i++) {
                items[i] = 0;
            }
        }

        // A LOST one has no items, so that all who look at sizes need not ask whether it is LOST.
        void drop() {
            form = LOST;
            size = 0;
        }

        boolean hasItem(int i) {
            return i >= 0 && i < size;
        }

        // Written without a sum of i and n: that could wrap around.
        boolean hasItems(int i, int n) {
            return i >= 0 && n >= 0 && n <= size && i <= size - n;
        }

        int faultOf(int asForm, int i) {
            if (isLost()) {
                return NULL;
            }
            if (form != asForm) {
                return CAST;
            }
            return hasItem(i) ? 0 : INDEX;
        }

        void store(int i, int v) {
            if (!hasItem(i)) {
                return;
            }
            if (form == BYTES) {
                items[i] = (byte) v;
            } else if (form == SHORTS) {
                items[i] = (short) v;
            } else {
                items[i] = v;
            }
        }

        int readingAt(int tick) {
            if (!hasItem(tick) || !isWithin(items[tick], 0, MAX_READING)) {
                return NONE;
            }
            return items[tick];
        }

        boolean hasWeldAt(int tick) {
            return hasItem(tick) && items[tick] != 0;
        }
    }

    /** A RUN: its REELS, its MARKS, and what feel() worked out last. */
    private static final class Run {
        final Reel wheelA;
        final Reel wheelB;
        final Reel wheelC;
        final Reel feelers;
        final Marks marks;
        final int[] ways;
        final int[] starts;
        final int[] lengths;
        final int[] partners;
        int ticks;
        int blindTicks;
        int feltCount;

        Run() {
            wheelA = new Reel();
            wheelB = new Reel();
            wheelC = new Reel();
            feelers = new Reel();
            marks = new Marks();
            ways = new int[MAX_ITEMS];
            starts = new int[MAX_FELT];
            lengths = new int[MAX_FELT];
            partners = new int[MAX_JOINTS];
        }

        Reel reelAt(int place) {
            switch (place) {
                case 0:
                    return wheelA;
                case 1:
                    return wheelB;
                case 2:
                    return wheelC;
                case 3:
                    return feelers;
                default:
                    return null;
            }
        }

        void feel() {
            ticks = Math.max(wheelA.size, Math.max(wheelB.size, wheelC.size));
            blindTicks = 0;
            feltCount = 0;
            int step = 0;
            int way = 0;
            int start = 0;
            for (int tick = 0; tick < ticks; tick++) {
                int read = readingsTogether(tick);
                if (read == NONE) {
                    blindTicks++;
                } else {
                    step = read;
                }
                way += step;
                ways[tick] = way;
                if (feltCount < MAX_FELT && feelers.hasWeldAt(tick)) {
                    starts[feltCount] = start;
                    lengths[feltCount] = way - start;
                    feltCount++;
                    start = way;
                }
            }
        }

        // NONE is less than any reading: with one of three missing the greatest is the answer
        // for two readings, for one and for none.
        private int readingsTogether(int tick) {
            int a = wheelA.readingAt(tick);
            int b = wheelB.readingAt(tick);
            int c = wheelC.readingAt(tick);
            int least = Math.min(a, Math.min(b, c));
            int most = Math.max(a, Math.max(b, c));
            return least == NONE ? most : a + b + c - least - most;
        }

        int fact(int what) {
            switch (what) {
                case 0:
                    return ticks;
                case 1:
                    return blindTicks;
                case 2:
                    return ticks > 0 ? ways[ticks - 1] : 0;
                default:
                    return feltCount;
            }
        }

        int feltAt(int way) {
            for (int j = 0; j < feltCount; j++) {
                if (way >= starts[j] && way < starts[j] + lengths[j]) {
                    return j;
                }
            }
            return NONE;
        }

        int markFact(int m, int what) {
            return what == 4 ? feltAt(marks.ways[m]) : marks.fact(m, what);
        }
    }

    /** THE BOOK, and the table of the least COSTS of its first JOINTS with the first FELT ones. */
    private static final class Book {
        private static final int COLUMNS = MAX_FELT + 1;

        final int[] lengths;
        final int[] least;
        int size;
        int missed;
        int extra;

        Book() {
            lengths = new int[MAX_JOINTS];
            least = new int[(MAX_JOINTS + 1) * COLUMNS];
            size = 0;
            missed = 100;
            extra = 100;
        }

        boolean hasJoint(int j) {
            return j >= 0 && j < size;
        }

        int add(int length) {
            if (size >= MAX_JOINTS) {
                return FULL;
            }
            lengths[size] = length;
            size++;
            return size - 1;
        }

        int leastCost(Run run) {
            for (int f = 0; f <= run.feltCount; f++) {
                least[f] = f * extra;
            }
            for (int b = 1; b <= size; b++) {
                int row = b * COLUMNS;
                least[row] = b * missed;
                for (int f = 1; f <= run.feltCount; f++) {
                    int leftOut = Math.min(least[row - COLUMNS + f] + missed, least[row + f - 1] + extra);
                    least[row + f] = Math.min(withPair(run, b, f), leftOut);
                }
            }
            return least[size * COLUMNS + run.feltCount];
        }

        private int withPair(Run run, int b, int f) {
            return least[(b - 1) * COLUMNS + f - 1] + Math.abs(lengths[b - 1] - run.lengths[f - 1]);
        }

        // From the end, because there the document breaks ties: a pair, then a JOINT left out.
        void pairUp(Run run) {
            leastCost(run);
            int f = run.feltCount;
            for (int b = size; b > 0; b--) {
                f = lastFeltNotLeftOut(run, b, f);
                if (f > 0 && least[b * COLUMNS + f] == withPair(run, b, f)) {
                    run.partners[b - 1] = f - 1;
                    f--;
                } else {
                    run.partners[b - 1] = NONE;
                }
            }
        }

        // Steps over the FELT ones left out behind the place where JOINT b - 1 is settled.
        private int lastFeltNotLeftOut(Run run, int b, int from) {
            for (int f = from; f > 0; f--) {
                int here = least[b * COLUMNS + f];
                if (here == withPair(run, b, f) || here == least[(b - 1) * COLUMNS + f] + missed) {
                    return f;
                }
            }
            return 0;
        }

        int jointPairedWith(Run run, int felt) {
            for (int j = 0; j < size && felt != NONE; j++) {
                if (run.partners[j] == felt) {
                    return j;
                }
            }
            return NONE;
        }
    }

    /** The MARKS of a RUN, and the GROUPS that putTogether() made of them last. */
    private static final class Marks {
        final int[] ways;
        final int[] clocks;
        final int[] depths;
        final int[] lengths;
        final int[] groupOf;
        final int[] waiting;
        int size;
        int groupCount;

        Marks() {
            ways = new int[MAX_MARKS];
            clocks = new int[MAX_MARKS];
            depths = new int[MAX_MARKS];
            lengths = new int[MAX_MARKS];
            groupOf = new int[MAX_MARKS];
            waiting = new int[MAX_MARKS];
        }

        boolean hasMark(int m) {
            return m >= 0 && m < size;
        }

        int add(int way, int clock, int depth, int length) {
            if (size >= MAX_MARKS) {
                return FULL;
            }
            ways[size] = way;
            clocks[size] = clock;
            depths[size] = depth;
            lengths[size] = length;
            size++;
            return size - 1;
        }

        int fact(int m, int what) {
            switch (what) {
                case 0:
                    return ways[m];
                case 1:
                    return clocks[m];
                case 2:
                    return depths[m];
                case 3:
                    return lengths[m];
                default:
                    return groupOf[m];
            }
        }

        private int endOf(int m) {
            return ways[m] + lengths[m];
        }

        private boolean areNear(int m, int other, int gap, int turn) {
            int between = Math.max(ways[m] - endOf(other), ways[other] - endOf(m));
            return between <= gap && hoursApart(clocks[m], clocks[other]) <= turn;
        }

        void putTogether(int gap, int turn) {
            groupCount = 0;
            for (int m = 0; m < size; m++) {
                groupOf[m] = NONE;
            }
            for (int m = 0; m < size; m++) {
                if (groupOf[m] == NONE) {
                    spread(m, gap, turn);
                    groupCount++;
                }
            }
        }

        // Each MARK waits once at most: it has its GROUP from then on.
        private void spread(int first, int gap, int turn) {
            groupOf[first] = groupCount;
            waiting[0] = first;
            int told = 1;
            for (int next = 0; next < told && next < size; next++) {
                for (int m = 0; m < size; m++) {
                    if (groupOf[m] == NONE && told < MAX_MARKS && areNear(waiting[next], m, gap, turn)) {
                        groupOf[m] = groupCount;
                        waiting[told] = m;
                        told++;
                    }
                }
            }
        }

        int groupFact(int g, int what) {
            int leastMark = NONE;
            int members = 0;
            int leastWay = 0;
            int greatestEnd = 0;
            int greatestDepth = 0;
            for (int m = 0; m < size; m++) {
                if (groupOf[m] == g) {
                    leastMark = members == 0 ? m : leastMark;
                    leastWay = members == 0 ? ways[m] : Math.min(leastWay, ways[m]);
                    greatestEnd = Math.max(greatestEnd, endOf(m));
                    greatestDepth = Math.max(greatestDepth, depths[m]);
                    members++;
                }
            }
            switch (what) {
                case 0:
                    return leastMark;
                case 1:
                    return members;
                case 2:
                    return leastWay;
                case 3:
                    return greatestEnd;
                default:
                    return greatestDepth;
            }
        }
    }

    /** The first MARKS of a RUN in one of its FELT JOINTS. */
    private static final class Lot {
        final int[] numbers;
        final int[] distances;
        final int[] clocks;
        int size;

        Lot() {
            numbers = new int[MAX_IN_JOINT];
            distances = new int[MAX_IN_JOINT];
            clocks = new int[MAX_IN_JOINT];
        }

        void gather(Run run, int felt) {
            size = 0;
            if (felt < 0 || felt >= run.feltCount) {
                return;
            }
            for (int m = 0; m < run.marks.size && size < MAX_IN_JOINT; m++) {
                if (run.feltAt(run.marks.ways[m]) == felt) {
                    numbers[size] = m;
                    distances[size] = run.marks.ways[m] - run.starts[felt];
                    clocks[size] = run.marks.clocks[m];
                    size++;
                }
            }
        }
    }

    /**
     * PAIRS of MARKS. The table holds, for the MARKS of RUN 0 from the i-th on and a set of
     * those of RUN 1 that are taken already, the least COST of all that is still to come.
     */
    private static final class Pairs {
        private static final int SETS = 1 << MAX_IN_JOINT;

        final Lot firsts;
        final Lot seconds;
        final int[] least;
        int alone;

        Pairs() {
            firsts = new Lot();
            seconds = new Lot();
            least = new int[(MAX_IN_JOINT + 1) * SETS];
            alone = 400;
        }

        int leastCost(Run first, int feltOfFirst, Run second, int feltOfSecond) {
            firsts.gather(first, feltOfFirst);
            seconds.gather(second, feltOfSecond);
            int sets = 1 << seconds.size;
            for (int taken = 0; taken < sets; taken++) {
                least[firsts.size * SETS + taken] = alone * (seconds.size - Integer.bitCount(taken));
            }
            for (int i = firsts.size - 1; i >= 0; i--) {
                for (int taken = 0; taken < sets; taken++) {
                    least[i * SETS + taken] = leastFrom(i, taken);
                }
            }
            return least[0];
        }

        private int leastFrom(int i, int taken) {
            int best = alone + least[(i + 1) * SETS + taken];
            for (int k = 0; k < seconds.size; k++) {
                if ((taken & 1 << k) == 0) {
                    best = Math.min(best, withPair(i, k, taken));
                }
            }
            return best;
        }

        private int withPair(int i, int k, int taken) {
            int cost = Math.abs(firsts.distances[i] - seconds.distances[k])
                    + HOUR_COST * hoursApart(firsts.clocks[i], seconds.clocks[k]);
            return cost + least[(i + 1) * SETS + (taken | 1 << k)];
        }

        // Goes through the table that leastCost() left, the lesser numbers first.
        int otherOf(int m) {
            int taken = 0;
            for (int i = 0; i < firsts.size; i++) {
                int k = choiceAt(i, taken);
                if (firsts.numbers[i] == m) {
                    return k == NONE ? NONE : seconds.numbers[k];
                }
                taken = k == NONE ? taken : taken | 1 << k;
            }
            return NONE;
        }

        private int choiceAt(int i, int taken) {
            for (int k = 0; k < seconds.size; k++) {
                if ((taken & 1 << k) == 0 && withPair(i, k, taken) == least[i * SETS + taken]) {
                    return k;
                }
            }
            return NONE;
        }
    }

    /** GROWTH of a pair, told by the spans in which the true DEPTHS lie. */
    private static final class Spans {
        int years;
        int tool;
        int limit;

        Spans() {
            years = 5;
            tool = 5;
            limit = 80;
        }

        private int leastTruly(int depth) {
            return Math.max(0, depth - tool);
        }

        private int mostTruly(int depth) {
            return Math.min(MAX_DEPTH, depth + tool);
        }

        int fact(int before, int after, int what) {
            int most = Math.max(0, mostTruly(after) - leastTruly(before));
            switch (what) {
                case 0:
                    return Math.max(0, leastTruly(after) - mostTruly(before));
                case 1:
                    return most;
                default:
                    return lastYear(mostTruly(after), most);
            }
        }

        private int lastYear(int depth, int most) {
            for (int n = MAX_LAST; n >= 0; n--) {
                if (depth * years + most * n <= limit * years) {
                    return n;
                }
            }
            return NONE;
        }
    }

    /** DIGS: the WORKS, and the choice of the YEARS in which they are done. */
    private static final class Digs {
        private static final int ALL_YEARS = (1 << MAX_YEAR) - 1;

        final int[] lastYears;
        final int[] dueIn;
        int size;
        int costOfWorks;
        int perYear;
        int setting;

        Digs() {
            lastYears = new int[MAX_WORKS];
            dueIn = new int[MAX_YEAR + 1];
            perYear = 4;
            setting = 500;
        }

        int add(int cost, int year) {
            if (size >= MAX_WORKS) {
                return FULL;
            }
            lastYears[size] = year;
            dueIn[year]++;
            costOfWorks += cost;
            size++;
            return size - 1;
        }

        int bestYears() {
            int best = NONE;
            for (int set = 0; set <= ALL_YEARS; set++) {
                if (isEnough(set) && (best == NONE || costOf(set) < costOf(best))) {
                    best = set;
                }
            }
            return best;
        }

        // A set is enough if, up to each YEAR, it has room for all that is due by then.
        private boolean isEnough(int set) {
            int due = 0;
            int room = 0;
            for (int year = 1; year <= MAX_YEAR; year++) {
                due += dueIn[year];
                room += hasYear(set, year) ? perYear : 0;
                if (due > room) {
                    return false;
                }
            }
            return true;
        }

        private boolean hasYear(int set, int year) {
            return (set >> (year - 1) & 1) != 0;
        }

        int costOf(int set) {
            return costOfWorks + setting * Integer.bitCount(set);
        }

        // All WORKS ahead of this one fill the YEARS one by one, so their number tells its YEAR.
        int yearOf(int w, int set) {
            int ahead = worksAheadOf(w);
            for (int year = 1; year <= MAX_YEAR; year++) {
                if (hasYear(set, year)) {
                    if (ahead < perYear) {
                        return year;
                    }
                    ahead -= perYear;
                }
            }
            return NONE;
        }

        private int worksAheadOf(int w) {
            int ahead = 0;
            for (int other = 0; other < size; other++) {
                if (lastYears[other] < lastYears[w] || lastYears[other] == lastYears[w] && other < w) {
                    ahead++;
                }
            }
            return ahead;
        }
    }

    /** The TRAP: what of it is open, as bits, and whether it is PRESSED. */
    private static final class Valves {
        int openBits;
        boolean pressed;

        Valves() {
            openBits = 1 << VENT;
            pressed = false;
        }

        boolean isOpen(int what) {
            return (openBits >> what & 1) != 0;
        }

        boolean mayOpen(int what) {
            switch (what) {
                case KICKER:
                case MAIN:
                    return !isOpen(DOOR) && !isOpen(VENT);
                case VENT:
                    return !isOpen(KICKER) && !isOpen(MAIN);
                case DOOR:
                    return !pressed && isOpen(VENT);
                default:
                    return false;
            }
        }

        void open(int what) {
            openBits |= 1 << what;
            if (what == KICKER || what == MAIN) {
                pressed = true;
            } else if (what == VENT) {
                pressed = false;
            }
        }

        void shut(int what) {
            openBits &= ~(1 << what);
        }
    }
}
