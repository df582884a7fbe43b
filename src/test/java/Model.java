import java.util.ArrayList;
import java.util.List;

/**
 * The document once more, by its definitions and in another way than the class: ties are broken by
 * comparing whole answers, pairings are all tried, works are laid into years by augmenting paths.
 */
final class Model {
    static final int NONE = -1, BAD = -2, FULL = -3, NOT = -4;

    private final Object[] reels = new Object[8];
    @SuppressWarnings("unchecked")
    private final List<int[]>[] kept = new List[2];
    private final List<Integer> book = new ArrayList<>();
    private final List<List<int[]>> marks = List.of(new ArrayList<>(), new ArrayList<>());
    private final List<int[]> works = new ArrayList<>();
    private final boolean[] open = {false, false, true, false};
    private boolean pressed;
    private int missed = 100, extra = 100, gap = 50, turn = 1, alone = 400;
    private int span = 5, tool = 5, limit = 80, k = 4, setting = 500, finding;

    private void changed(int reel) {
        kept[reel / 4] = null;
    }

    private int found(int number) {
        finding = number;
        return -10 - number;
    }

    private static boolean in(int x, int low, int high) {
        return low <= x && x <= high;
    }

    private static int formOf(Object row) {
        return row instanceof byte[] ? 0 : row instanceof short[] ? 1 : 2;
    }

    private static int sizeOf(Object row) {
        return row == null ? 0 : java.lang.reflect.Array.getLength(row);
    }

    private static int itemOf(Object row, int i) {
        return java.lang.reflect.Array.getInt(row, i);
    }

    int reel(int r, int form, int n) {
        if (!in(r, 0, 7) || !in(form, 0, 2) || n > 150) return BAD;
        if (n < 0) return found(5);
        changed(r);
        reels[r] = form == 0 ? new byte[n] : form == 1 ? new short[n] : new int[n];
        return n;
    }

    int lose(int r) {
        if (!in(r, 0, 7)) return BAD;
        if (reels[r] == null) return found(1);
        int n = sizeOf(reels[r]);
        changed(r);
        reels[r] = null;
        return n;
    }

    private int fault(int r, int form, int i) {
        if (reels[r] == null) return 1;
        if (formOf(reels[r]) != form) return 3;
        return in(i, 0, sizeOf(reels[r]) - 1) ? 0 : 2;
    }

    int put(int r, int form, int i, int v) {
        if (!in(r, 0, 7) || !in(form, 0, 2)) return BAD;
        int fault = fault(r, form, i);
        if (fault != 0) return found(fault);
        changed(r);
        if (reels[r] instanceof byte[] row) row[i] = (byte) v;
        if (reels[r] instanceof short[] row) row[i] = (short) v;
        if (reels[r] instanceof int[] row) row[i] = v;
        return 1;
    }

    int get(int r, int form, int i) {
        if (!in(r, 0, 7) || !in(form, 0, 2)) return Integer.MIN_VALUE;
        int fault = fault(r, form, i);
        if (fault == 0) return itemOf(reels[r], i);
        found(fault);
        return Integer.MIN_VALUE;
    }

    int copy(int r, int i, int q, int j, int n) {
        if (!in(r, 0, 7) || !in(q, 0, 7)) return BAD;
        if (reels[r] == null || reels[q] == null) return found(1);
        if (formOf(reels[r]) != formOf(reels[q])) return found(4);
        try {
            System.arraycopy(reels[r], i, reels[q], j, n);
            changed(q);
            return 1;
        } catch (IndexOutOfBoundsException outside) {
            return found(2);
        }
    }

    // ---- runs

    private int ticks(int r) {
        int ticks = 0;
        for (int w = 0; w < 3; w++) ticks = Math.max(ticks, sizeOf(reels[4 * r + w]));
        return ticks;
    }

    private List<Integer> readings(int r, int tick) {
        List<Integer> some = new ArrayList<>();
        for (int w = 0; w < 3; w++) {
            Object row = reels[4 * r + w];
            if (tick < sizeOf(row) && in(itemOf(row, tick), 0, 30000)) some.add(itemOf(row, tick));
        }
        some.sort(null);
        return some;
    }

    private int step(int r, int tick) {
        for (int t = tick; t >= 0; t--) {
            List<Integer> some = readings(r, t);
            if (some.size() > 0) return some.size() == 1 ? some.get(0) : some.get(1);
        }
        return 0;
    }

    private int wayOf(int r, int tick) {
        int way = 0;
        for (int t = 0; t <= tick; t++) way += step(r, t);
        return way;
    }

    /** Kept until a reel changes, for speed alone. */
    private List<int[]> feltJoints(int r) {
        if (kept[r] == null) kept[r] = feltAnew(r);
        return kept[r];
    }

    private List<int[]> feltAnew(int r) {
        List<int[]> joints = new ArrayList<>();
        int from = 0, way = 0;
        for (int t = 0; t < ticks(r); t++) {
            way += step(r, t);
            if (t < sizeOf(reels[4 * r + 3]) && itemOf(reels[4 * r + 3], t) != 0) {
                joints.add(new int[] {from, way});
                from = way;
            }
        }
        return joints.size() > 60 ? joints.subList(0, 60) : joints;
    }

    int run(int r, int what) {
        if (!in(r, 0, 1) || !in(what, 0, 3)) return BAD;
        if (what == 0) return ticks(r);
        if (what == 2) return wayOf(r, ticks(r) - 1);
        if (what == 3) return feltJoints(r).size();
        int blind = 0;
        for (int t = 0; t < ticks(r); t++) blind += readings(r, t).isEmpty() ? 1 : 0;
        return blind;
    }

    int way(int r, int tick) {
        return !in(r, 0, 1) || !in(tick, 0, ticks(r) - 1) ? BAD : wayOf(r, tick);
    }

    int felt(int r, int j, int what) {
        if (!in(r, 0, 1) || !in(what, 0, 1) || !in(j, 0, feltJoints(r).size() - 1)) return BAD;
        int[] joint = feltJoints(r).get(j);
        return what == 0 ? joint[0] : joint[1] - joint[0];
    }

    // ---- the book

    int joint(int length) {
        if (!in(length, 1, 100000)) return BAD;
        if (book.size() == 40) return FULL;
        book.add(length);
        return book.size() - 1;
    }

    int wipe() {
        int had = book.size();
        book.clear();
        return had;
    }

    int costs(int newMissed, int newExtra) {
        if (!in(newMissed, 0, 1000000) || !in(newExtra, 0, 1000000)) return BAD;
        missed = newMissed;
        extra = newExtra;
        return 1;
    }

    /** A match as it is gone through from the end: a a pair, b one of the book, c a felt one. */
    private record Way(long cost, String from) {
        static Way better(Way one, Way other) {
            if (one == null || other == null) return one == null ? other : one;
            if (one.cost != other.cost) return one.cost < other.cost ? one : other;
            return one.from.compareTo(other.from) <= 0 ? one : other;
        }
    }

    private Way best(int r) {
        List<int[]> felt = feltJoints(r);
        Way[][] best = new Way[book.size() + 1][felt.size() + 1];
        best[0][0] = new Way(0, "");
        for (int b = 0; b <= book.size(); b++) {
            for (int f = 0; f <= felt.size(); f++) {
                if (b > 0 && f > 0) {
                    int length = felt.get(f - 1)[1] - felt.get(f - 1)[0];
                    Way rest = best[b - 1][f - 1];
                    best[b][f] = new Way(rest.cost + Math.abs(length - book.get(b - 1)), "a" + rest.from);
                }
                if (b > 0) {
                    Way rest = best[b - 1][f];
                    best[b][f] = Way.better(best[b][f], new Way(rest.cost + missed, "b" + rest.from));
                }
                if (f > 0) {
                    Way rest = best[b][f - 1];
                    best[b][f] = Way.better(best[b][f], new Way(rest.cost + extra, "c" + rest.from));
                }
            }
        }
        return best[book.size()][felt.size()];
    }

    private int[] partners(int r) {
        int[] partners = new int[book.size()];
        int b = book.size(), f = feltJoints(r).size();
        for (char c : best(r).from.toCharArray()) {
            if (c == 'a') partners[--b] = --f;
            else if (c == 'b') partners[--b] = NONE;
            else f--;
        }
        return partners;
    }

    int match(int r) {
        return in(r, 0, 1) ? (int) best(r).cost : BAD;
    }

    int paired(int r, int j) {
        return !in(r, 0, 1) || !in(j, 0, book.size() - 1) ? BAD : partners(r)[j];
    }

    // ---- marks

    int mark(int r, int way, int clock, int depth, int length) {
        if (!in(r, 0, 1) || !in(way, 0, 4000000) || !in(clock, 0, 11)) return BAD;
        if (!in(depth, 0, 100) || !in(length, 0, 10000)) return BAD;
        if (marks.get(r).size() == 40) return FULL;
        marks.get(r).add(new int[] {way, clock, depth, length});
        return marks.get(r).size() - 1;
    }

    int clear(int r) {
        if (!in(r, 0, 1)) return BAD;
        int had = marks.get(r).size();
        marks.get(r).clear();
        return had;
    }

    private int feltOf(int r, int m) {
        List<int[]> felt = feltJoints(r);
        int way = marks.get(r).get(m)[0];
        for (int j = 0; j < felt.size(); j++) {
            if (felt.get(j)[0] <= way && way < felt.get(j)[1]) return j;
        }
        return NONE;
    }

    private static int hours(int one, int other) {
        int forth = Math.floorMod(one - other, 12), back = Math.floorMod(other - one, 12);
        return Math.min(forth, back);
    }

    private boolean isNear(int[] one, int[] other) {
        int between = 0;
        if (one[0] + one[3] < other[0]) between = other[0] - one[0] - one[3];
        if (other[0] + other[3] < one[0]) between = one[0] - other[0] - other[3];
        return between <= gap && hours(one[1], other[1]) <= turn;
    }

    /** For each mark its least companion. */
    private int[] leaders(int r) {
        List<int[]> all = marks.get(r);
        int n = all.size();
        boolean[][] with = new boolean[n][n];
        for (int a = 0; a < n; a++) for (int b = 0; b < n; b++) with[a][b] = isNear(all.get(a), all.get(b));
        for (int c = 0; c < n; c++)
            for (int a = 0; a < n; a++)
                for (int b = 0; b < n; b++) with[a][b] |= with[a][c] && with[c][b];
        int[] leaders = new int[n];
        for (int a = 0; a < n; a++) while (!with[a][leaders[a]]) leaders[a]++;
        return leaders;
    }

    private List<Integer> groupLeaders(int r) {
        List<Integer> some = new ArrayList<>();
        for (int leader : leaders(r)) if (!some.contains(leader)) some.add(leader);
        some.sort(null);
        return some;
    }

    int about(int r, int m, int what) {
        if (!in(r, 0, 1) || !in(m, 0, marks.get(r).size() - 1) || !in(what, 0, 5)) return BAD;
        if (what < 4) return marks.get(r).get(m)[what];
        return what == 4 ? feltOf(r, m) : groupLeaders(r).indexOf(leaders(r)[m]);
    }

    int near(int newGap, int newTurn) {
        if (!in(newGap, 0, 100000) || !in(newTurn, 0, 6)) return BAD;
        gap = newGap;
        turn = newTurn;
        return 1;
    }

    int groups(int r) {
        return in(r, 0, 1) ? groupLeaders(r).size() : BAD;
    }

    int group(int r, int g, int what) {
        if (!in(r, 0, 1) || !in(what, 0, 4) || !in(g, 0, groups(r) - 1)) return BAD;
        int leader = groupLeaders(r).get(g), many = 0, way = Integer.MAX_VALUE, end = 0, depth = 0;
        int[] leaders = leaders(r);
        for (int m = 0; m < leaders.length; m++) {
            if (leaders[m] != leader) continue;
            int[] mark = marks.get(r).get(m);
            many++;
            way = Math.min(way, mark[0]);
            end = Math.max(end, mark[0] + mark[3]);
            depth = Math.max(depth, mark[2]);
        }
        return new int[] {leader, many, way, end, depth}[what];
    }

    // ---- pairs

    int alone(int cost) {
        if (!in(cost, 0, 100000)) return BAD;
        int was = alone;
        alone = cost;
        return was;
    }

    private List<Integer> marksIn(int r, int felt) {
        List<Integer> some = new ArrayList<>();
        for (int m = 0; m < marks.get(r).size(); m++) {
            if (felt != NONE && some.size() < 5 && feltOf(r, m) == felt) some.add(m);
        }
        return some;
    }

    /** All pairings of one joint, tried in the order in which ties are broken. */
    private final class Trial {
        final int felt0, felt1;
        final List<Integer> ones, others;
        final int[] now = new int[5];
        int[] best;
        long least = Long.MAX_VALUE;

        Trial(int j) {
            felt0 = partners(0)[j];
            felt1 = partners(1)[j];
            ones = marksIn(0, felt0);
            others = marksIn(1, felt1);
            next(0, 0, 0);
        }

        void next(int i, int taken, long cost) {
            if (i == ones.size()) {
                long whole = cost + (long) alone * (others.size() - Integer.bitCount(taken));
                if (whole < least) {
                    least = whole;
                    best = now.clone();
                }
                return;
            }
            for (int o = 0; o < others.size(); o++) {
                if ((taken >> o & 1) == 1) continue;
                now[i] = others.get(o);
                next(i + 1, taken | 1 << o, cost + costOf(ones.get(i), others.get(o)));
            }
            now[i] = NONE;
            next(i + 1, taken, cost + alone);
        }

        int costOf(int one, int other) {
            int[] a = marks.get(0).get(one), b = marks.get(1).get(other);
            int from0 = a[0] - feltJoints(0).get(felt0)[0], from1 = b[0] - feltJoints(1).get(felt1)[0];
            return Math.abs(from0 - from1) + 100 * hours(a[1], b[1]);
        }
    }

    int pairing(int j) {
        return in(j, 0, book.size() - 1) ? (int) new Trial(j).least : BAD;
    }

    int twin(int m) {
        if (!in(m, 0, marks.get(0).size() - 1)) return BAD;
        int felt = feltOf(0, m);
        int[] partners = partners(0);
        for (int j = 0; j < partners.length; j++) {
            if (felt == NONE || partners[j] != felt) continue;
            Trial trial = new Trial(j);
            int place = trial.ones.indexOf(m);
            return place < 0 ? NONE : trial.best[place];
        }
        return NONE;
    }

    int tool(int newSpan, int newTool, int newLimit) {
        if (!in(newSpan, 1, 50) || !in(newTool, 0, 50) || !in(newLimit, 0, 100)) return BAD;
        span = newSpan;
        tool = newTool;
        limit = newLimit;
        return 1;
    }

    private static int cut(int depth) {
        return Math.min(100, Math.max(0, depth));
    }

    int growth(int m, int what) {
        if (!in(m, 0, marks.get(0).size() - 1) || !in(what, 0, 2)) return BAD;
        int twin = twin(m);
        if (twin == NONE) return NOT;
        int d0 = marks.get(0).get(m)[2], d1 = marks.get(1).get(twin)[2];
        if (what == 0) return cut(cut(d1 - tool) - cut(d0 + tool));
        int most = cut(cut(d1 + tool) - cut(d0 - tool)), last = NONE;
        if (what == 1) return most;
        for (int n = 0; n <= 99; n++) if (cut(d1 + tool) * span + most * n <= limit * span) last = n;
        return last;
    }

    // ---- digs, traps

    int work(int cost, int year) {
        if (!in(cost, 1, 1000) || !in(year, 1, 8)) return BAD;
        if (works.size() == 30) return FULL;
        works.add(new int[] {cost, year});
        return works.size() - 1;
    }

    int yearly(int newK, int newSetting) {
        if (!in(newK, 1, 30) || !in(newSetting, 0, 10000)) return BAD;
        k = newK;
        setting = newSetting;
        return 1;
    }

    private boolean place(int w, int set, List<List<Integer>> done, boolean[] tried) {
        for (int year = 1; year <= works.get(w)[1]; year++) {
            if ((set >> (year - 1) & 1) == 0 || tried[year]) continue;
            tried[year] = true;
            List<Integer> here = done.get(year);
            if (here.size() < k) {
                here.add(w);
                return true;
            }
            for (int i = 0; i < here.size(); i++) {
                if (place(here.get(i), set, done, tried)) {
                    here.set(i, w);
                    return true;
                }
            }
        }
        return false;
    }

    private boolean canBe(int set) {
        List<List<Integer>> done = new ArrayList<>();
        for (int year = 0; year <= 8; year++) done.add(new ArrayList<>());
        for (int w = 0; w < works.size(); w++) if (!place(w, set, done, new boolean[9])) return false;
        return true;
    }

    int years() {
        int best = NOT;
        for (int set = 255; set >= 0; set--) {
            boolean notDearer = best == NOT || setting * Integer.bitCount(set) <= setting * Integer.bitCount(best);
            if (notDearer && canBe(set)) best = set;
        }
        return best;
    }

    int plan() {
        int years = years();
        if (years == NOT) return NOT;
        int cost = setting * Integer.bitCount(years);
        for (int[] work : works) cost += work[0];
        return cost;
    }

    int when(int w) {
        if (!in(w, 0, works.size() - 1)) return BAD;
        int set = years();
        if (set == NOT) return NOT;
        int[] done = new int[9], year = new int[works.size()];
        for (int last = 1; last <= 8; last++) {
            for (int i = 0; i < works.size(); i++) {
                if (works.get(i)[1] != last) continue;
                year[i] = 1;
                while ((set >> (year[i] - 1) & 1) == 0 || done[year[i]] == k) year[i]++;
                done[year[i]]++;
            }
        }
        return year[w];
    }

    int trap(int what, boolean opened) {
        if (!in(what, 0, 3)) return BAD;
        if (open[what] == opened) return 0;
        if (opened && what <= 1 && (open[3] || open[2])) return NOT;
        if (opened && what == 2 && (open[0] || open[1])) return NOT;
        if (opened && what == 3 && (pressed || !open[2])) return NOT;
        open[what] = opened;
        if (opened && what <= 1) pressed = true;
        if (opened && what == 2) pressed = false;
        return 1;
    }

    int count(int what) {
        if (!in(what, 0, 6)) return BAD;
        int bits = 0;
        for (int valve = 0; valve < 4; valve++) bits += open[valve] ? 1 << valve : 0;
        return new int[] {book.size(), marks.get(0).size(), marks.get(1).size(), works.size(), bits,
            pressed ? 1 : 0, finding}[what];
    }

    long digest() {
        List<Integer> all = new ArrayList<>();
        for (int what = 0; what <= 5; what++) all.add(count(what));
        for (int r = 0; r <= 1; r++) {
            for (int what = 0; what <= 3; what++) all.add(run(r, what));
            for (int[] felt : feltJoints(r)) all.add(felt[1] - felt[0]);
            all.add(match(r));
            List<Integer> leaders = groupLeaders(r);
            int[] own = leaders(r);
            for (int m = 0; m < marks.get(r).size(); m++) {
                for (int what = 0; what <= 4; what++) all.add(about(r, m, what));
                all.add(leaders.indexOf(own[m]));
            }
        }
        long h = 17;
        for (int x : all) h = 31 * h + x;
        return h;
    }
}
