/** The boundary sentences of the document on MARKS (promises 15 to 20), each with objects of its own. */
public final class MarkEdgesTest {
    private static final int LEAST = Lines.LEAST, MOST = Lines.MOST;
    private static final int[] NO_RUN = {-1, 2, LEAST, MOST};
    private static final Due due = new Due();

    public static void main(String[] args) {
        fortyMarks();
        runsApart();
        ways();
        clocks();
        depths();
        lengths();
        noRun();
        badAheadOfFull();
        clear();
        clearRefusals();
        aboutRefusals();
        fromItsBeginningOn();
        ofNoLength();
        behindTheLast();
        behindTheSixtieth();
        nearBounds();
        nearAtFirst();
        gapFromTheEnd();
        overlaps();
        roundTheClock();
        bothAreWanted();
        andSoOn();
        numberedByLeastMarks();
        groupsOfNone();
        groupsRefusals();
        groupRefusals();
        box();
        boxOfOne();
        due.end();
    }

    private static void fortyMarks() {
        due.sentence("Terms: MARKS of a RUN, 40 at most; promise 15: its number; FULL");
        for (int r = 0; r < 2; r++) {
            PigLine x = new PigLine();
            for (int round = 0; round < 2; round++) {
                for (int m = 0; m < 40; m++) {
                    due.is("mark", x.mark(r, m, 0, 0, 0), m);
                }
                due.is("the 41st", x.mark(r, 0, 0, 0, 0), -3);
                due.is("40", x.count(1 + r), 40);
                due.is("the last", x.about(r, 39, 0), 39);
                due.is("there is no 41st", x.about(r, 40, 0), -2);
                due.is("clear", x.clear(r), 40);
            }
        }
    }

    private static void runsApart() {
        due.sentence("Terms: MARKS of a RUN, each RUN its own");
        PigLine x = new PigLine();
        Lines.marks(x, 0, 40, 0, 0, 0, 0);
        due.is("RUN 0 is full", x.mark(0, 0, 0, 0, 0), -3);
        due.is("RUN 1 is not", x.mark(1, 0, 0, 0, 0), 0);
        Lines.marks(x, 1, 39, 0, 0, 0, 0);
        due.is("now it is", x.mark(1, 0, 0, 0, 0), -3);
        due.is("RUN 0 is cleared", x.clear(0), 40);
        due.is("RUN 1 is full still", x.mark(1, 0, 0, 0, 0), -3);
        due.is("RUN 0 is not", x.mark(0, 0, 0, 0, 0), 0);
    }

    /** The argument at this place takes least to most, and nothing beyond. */
    private static void bounds(int place, int least, int most) {
        int[] bad = {least - 1, most + 1, LEAST, MOST};
        for (int r = 0; r < 2; r++) {
            PigLine x = new PigLine();
            for (int b : bad) {
                int[] a = {1, 1, 1, 1};
                a[place] = b;
                due.is("argument " + place + ": " + b, x.mark(r, a[0], a[1], a[2], a[3]), -2);
            }
            due.is("none came", x.count(1 + r), 0);
            int[] good = {least, most};
            for (int m = 0; m < 2; m++) {
                int[] a = {1, 1, 1, 1};
                a[place] = good[m];
                due.is("argument " + place + ": " + good[m], x.mark(r, a[0], a[1], a[2], a[3]), m);
                due.is("it is kept", x.about(r, m, place), good[m]);
            }
            due.is("no finding", x.count(6), 0);
        }
    }

    private static void ways() {
        due.sentence("Terms: a WAY (0 to 4000000)");
        bounds(0, 0, 4000000);
    }

    private static void clocks() {
        due.sentence("Terms: a CLOCK (0 to 11)");
        bounds(1, 0, 11);
    }

    private static void depths() {
        due.sentence("Terms: a DEPTH (0 to 100)");
        bounds(2, 0, 100);
    }

    private static void lengths() {
        due.sentence("Terms: a LENGTH (0 to 10000)");
        bounds(3, 0, 10000);
    }

    private static void noRun() {
        due.sentence("Promise 15: BAD: no such RUN");
        PigLine x = new PigLine();
        for (int r : NO_RUN) {
            due.is("mark " + r, x.mark(r, 0, 0, 0, 0), -2);
        }
        due.is("none came to RUN 0", x.count(1), 0);
        due.is("none came to RUN 1", x.count(2), 0);
    }

    private static void badAheadOfFull() {
        due.sentence("Refusals, the first that fits: BAD ahead of FULL (mark)");
        PigLine x = new PigLine();
        Lines.marks(x, 0, 40, 0, 0, 0, 0);
        int[][] bad = {{-1, 0, 0, 0}, {4000001, 0, 0, 0}, {0, -1, 0, 0}, {0, 12, 0, 0}, {0, 0, -1, 0},
            {0, 0, 101, 0}, {0, 0, 0, -1}, {0, 0, 0, 10001}};
        for (int[] b : bad) {
            due.is("mark", x.mark(0, b[0], b[1], b[2], b[3]), -2);
        }
        due.is("good", x.mark(0, 0, 0, 0, 0), -3);
    }

    private static void clear() {
        due.sentence("Promise 16: a RUN has no MARKS: how many it had");
        int[] sizes = {0, 1, 39, 40};
        for (int size : sizes) {
            for (int r = 0; r < 2; r++) {
                PigLine x = new PigLine();
                Lines.marks(x, r, size, 5, 0, 0, 0);
                Lines.marks(x, 1 - r, 3, 5, 0, 0, 0);
                due.is("clear", x.clear(r), size);
                due.is("none", x.count(1 + r), 0);
                due.is("no mark", x.about(r, 0, 0), -2);
                due.is("no group", x.groups(r), 0);
                due.is("the other run keeps its own", x.count(2 - r), 3);
                due.is("again", x.clear(r), 0);
                due.is("numbers begin at 0", x.mark(r, 8, 0, 0, 0), 0);
                due.is("the new one", x.about(r, 0, 0), 8);
            }
        }
    }

    private static void clearRefusals() {
        due.sentence("Promise 16: BAD");
        PigLine x = new PigLine();
        x.mark(0, 0, 0, 0, 0);
        x.mark(1, 0, 0, 0, 0);
        for (int r : NO_RUN) {
            due.is("clear " + r, x.clear(r), -2);
        }
        due.is("RUN 0 keeps its own", x.count(1), 1);
        due.is("RUN 1 keeps its own", x.count(2), 1);
    }

    private static void aboutRefusals() {
        due.sentence("Promise 17: BAD");
        PigLine x = new PigLine();
        x.mark(0, 1, 2, 3, 4);
        x.mark(0, 1, 2, 3, 4);
        for (int what = 0; what <= 5; what++) {
            for (int r : NO_RUN) {
                due.is("about " + r, x.about(r, 0, what), -2);
            }
            int[] none = {-1, 2, 40, LEAST, MOST};
            for (int m : none) {
                due.is("about mark " + m, x.about(0, m, what), -2);
            }
            due.is("about a run without marks", x.about(1, 0, what), -2);
        }
        int[] noWhat = {-1, 6, LEAST, MOST};
        for (int what : noWhat) {
            due.is("about what " + what, x.about(0, 0, what), -2);
        }
        due.is("the last", x.about(0, 1, 3), 4);
        due.is("no finding", x.count(6), 0);
    }

    private static void in(PigLine x, int r, int way, int joint) {
        int m = x.mark(r, way, 0, 0, 10000);
        due.is("way " + way, x.about(r, m, 4), joint);
    }

    private static void fromItsBeginningOn() {
        due.sentence("Terms: in the FELT JOINT in which their WAY is (from its beginning on, its end not)");
        for (int r = 0; r < 2; r++) {
            PigLine x = new PigLine();
            Lines.feel(x, r, 10, 20, 5);
            in(x, r, 0, 0);
            in(x, r, 9, 0);
            in(x, r, 10, 1);
            in(x, r, 29, 1);
            in(x, r, 30, 2);
            in(x, r, 34, 2);
        }
    }

    private static void ofNoLength() {
        due.sentence("Terms: no MARK is in a FELT JOINT of no LENGTH");
        PigLine x = new PigLine();
        Lines.feel(x, 0, 0, 0, 10, 0, 5, 0);
        in(x, 0, 0, 2);
        in(x, 0, 9, 2);
        in(x, 0, 10, 4);
        in(x, 0, 14, 4);
        in(x, 0, 15, -1);
    }

    private static void behindTheLast() {
        due.sentence("Terms: NONE behind the last");
        PigLine x = new PigLine();
        Lines.fill(x, 0, 2, 10, 20, 30);
        Lines.fill(x, 3, 0, 1, 1, 0);
        in(x, 0, 29, 1);
        in(x, 0, 30, -1);
        in(x, 0, 59, -1);
        in(x, 0, 4000000, -1);
        in(x, 1, 0, -1);
        x.put(3, 0, 2, 1);
        due.is("a weld more", x.about(0, 2, 4), 2);
        x.lose(3);
        due.is("no welds", x.about(0, 0, 4), -1);
    }

    private static void behindTheSixtieth() {
        due.sentence("Terms: 60 FELT JOINTS at most count, NONE behind the last");
        PigLine x = new PigLine();
        Lines.fillAlike(x, 0, 0, 100, 2);
        Lines.fillAlike(x, 3, 0, 100, 1);
        in(x, 0, 118, 59);
        in(x, 0, 119, 59);
        in(x, 0, 120, -1);
        in(x, 0, 199, -1);
    }

    private static void together(String what, PigLine x, int r, boolean so) {
        due.is(what, x.groups(r), so ? 1 : 2);
    }

    /** Two MARKS in both orders are NEAR, or they are not. */
    private static void near(String what, int gap, int turn, int[] one, int[] other, boolean so) {
        for (int r = 0; r < 2; r++) {
            PigLine x = new PigLine();
            x.near(gap, turn);
            x.mark(r, one[0], one[1], 0, one[2]);
            x.mark(r, other[0], other[1], 0, other[2]);
            together(what, x, r, so);
            x.clear(r);
            x.mark(r, other[0], other[1], 0, other[2]);
            x.mark(r, one[0], one[1], 0, one[2]);
            together(what + ", the other order", x, r, so);
        }
    }

    private static int[] at(int way, int clock, int length) {
        return new int[] {way, clock, length};
    }

    private static void nearBounds() {
        due.sentence("Promise 18: GAP (0 to 100000) and TURN (0 to 6): 1. BAD");
        int[] badGaps = {-1, 100001, LEAST, MOST};
        int[] badTurns = {-1, 7, LEAST, MOST};
        PigLine x = new PigLine();
        x.mark(0, 0, 0, 0, 0);
        x.mark(0, 51, 0, 0, 0);
        x.mark(1, 0, 0, 0, 0);
        x.mark(1, 0, 2, 0, 0);
        for (int gap : badGaps) {
            due.is("gap " + gap, x.near(gap, 6), -2);
            together("TURN stays", x, 1, false);
        }
        for (int turn : badTurns) {
            due.is("turn " + turn, x.near(100000, turn), -2);
            together("GAP stays", x, 0, false);
        }
        due.is("both least", x.near(0, 0), 1);
        due.is("both greatest", x.near(100000, 6), 1);
        together("GAP", x, 0, true);
        together("TURN", x, 1, true);
        near("100000 between", 100000, 0, at(0, 0, 0), at(100000, 0, 0), true);
        near("100001 between", 100000, 0, at(0, 0, 0), at(100001, 0, 0), false);
    }

    private static void nearAtFirst() {
        due.sentence("Terms: GAP (50 at first), TURN (1 at first)");
        int[][] rows = {{50, 0, 1}, {51, 0, 2}, {0, 1, 1}, {0, 2, 2}, {50, 1, 1}, {0, 11, 1}, {0, 10, 2}};
        for (int[] row : rows) {
            PigLine x = new PigLine();
            x.mark(0, 0, 0, 0, 0);
            x.mark(0, row[0], row[1], 0, 0);
            due.is(row[0] + " between, " + row[1] + " hours", x.groups(0), row[2]);
        }
    }

    private static void gapFromTheEnd() {
        due.sentence("Terms: from the end of the one to the beginning of the other there are GAP at most");
        near("10 between", 10, 0, at(100, 0, 20), at(130, 0, 7), true);
        near("11 between", 10, 0, at(100, 0, 20), at(131, 0, 7), false);
        near("none between", 0, 0, at(100, 0, 20), at(120, 0, 7), true);
        near("1 between", 0, 0, at(100, 0, 20), at(121, 0, 7), false);
        near("without lengths", 0, 0, at(100, 0, 0), at(100, 0, 0), true);
        near("without lengths, 1 between", 0, 0, at(100, 0, 0), at(101, 0, 0), false);
        near("at the far end", 0, 0, at(3990000, 0, 10000), at(4000000, 0, 10000), true);
        near("one less", 0, 0, at(3989999, 0, 10000), at(4000000, 0, 10000), false);
    }

    private static void overlaps() {
        due.sentence("Terms: between them 0 if they overlap");
        near("one begins within the other", 0, 0, at(100, 0, 20), at(119, 0, 50), true);
        near("one lies within the other", 0, 0, at(100, 0, 50), at(110, 0, 5), true);
        near("both begin together", 0, 0, at(100, 0, 50), at(100, 0, 5), true);
        near("both end together", 0, 0, at(100, 0, 50), at(140, 0, 10), true);
        near("a long way within", 0, 0, at(0, 0, 10000), at(5000, 0, 0), true);
    }

    private static void roundTheClock() {
        due.sentence("Terms: their CLOCKS are apart by TURN at most, round the clock");
        for (int one = 0; one < 12; one++) {
            for (int other = 0; other < 12; other++) {
                int straight = Math.abs(one - other);
                int apart = straight > 6 ? 12 - straight : straight;
                PigLine x = new PigLine();
                x.mark(0, 7, one, 0, 0);
                x.mark(0, 7, other, 0, 0);
                for (int turn = 0; turn <= 6; turn++) {
                    x.near(0, turn);
                    together(one + " and " + other + " by " + turn, x, 0, apart <= turn);
                }
            }
        }
    }

    private static void bothAreWanted() {
        due.sentence("Terms: TWO are NEAR by GAP and by CLOCKS");
        near("both", 10, 2, at(0, 0, 0), at(10, 2, 0), true);
        near("GAP alone", 10, 2, at(0, 0, 0), at(10, 3, 0), false);
        near("CLOCKS alone", 10, 2, at(0, 0, 0), at(11, 2, 0), false);
        near("neither", 10, 2, at(0, 0, 0), at(11, 3, 0), false);
    }

    private static void andSoOn() {
        due.sentence("Terms: GROUPS: MARKS that are NEAR, and those NEAR to these, and so on");
        PigLine x = new PigLine();
        // Each is NEAR to the next alone; their numbers jump about.
        for (int m = 0; m < 40; m++) {
            x.mark(0, m * 23 % 40 * 50, 0, 0, 0);
        }
        due.is("one chain of 40", x.groups(0), 1);
        due.is("all of them", x.group(0, 0, 1), 40);
        x.near(49, 1);
        due.is("none of them", x.groups(0), 40);
        // Round the clock hour by hour.
        for (int m = 0; m < 12; m++) {
            x.mark(1, 0, m * 7 % 12, 0, 0);
        }
        due.is("one ring", x.groups(1), 1);
        x.near(49, 0);
        due.is("twelve", x.groups(1), 12);
    }

    private static void numberedByLeastMarks() {
        due.sentence("Terms: GROUPS numbered by their least MARKS");
        PigLine x = new PigLine();
        int[] ways = {9000, 5000, 100, 5040, 9050, 7000, 140};
        int[] groups = {0, 1, 2, 1, 0, 3, 2};
        for (int way : ways) {
            x.mark(1, way, 0, 0, 0);
        }
        for (int m = 0; m < ways.length; m++) {
            due.is("group of mark " + m, x.about(1, m, 5), groups[m]);
        }
        int[] least = {0, 1, 2, 5};
        for (int g = 0; g < least.length; g++) {
            due.is("least mark of group " + g, x.group(1, g, 0), least[g]);
        }
        // A greater GAP joins the groups 0, 1 and 3: group 2 takes the number that is free then.
        x.near(2000, 0);
        due.is("joined", x.groups(1), 2);
        due.is("the last mark", x.about(1, 6, 5), 1);
        due.is("the sixth mark", x.about(1, 5, 5), 0);
    }

    private static void groupsOfNone() {
        due.sentence("Promise 19: a RUN without MARKS has no GROUPS");
        PigLine x = new PigLine();
        for (int r = 0; r < 2; r++) {
            due.is("groups", x.groups(r), 0);
            for (int what = 0; what <= 4; what++) {
                due.is("no group", x.group(r, 0, what), -2);
            }
        }
        x.mark(0, 0, 0, 0, 0);
        due.is("one", x.groups(0), 1);
        due.is("the other has none", x.groups(1), 0);
    }

    private static void groupsRefusals() {
        due.sentence("Promise 19: BAD");
        PigLine x = new PigLine();
        x.mark(0, 0, 0, 0, 0);
        x.mark(1, 0, 0, 0, 0);
        for (int r : NO_RUN) {
            due.is("groups " + r, x.groups(r), -2);
        }
    }

    private static void groupRefusals() {
        due.sentence("Promise 20: BAD");
        PigLine x = new PigLine();
        x.mark(0, 0, 0, 0, 0);
        x.mark(0, 10, 0, 0, 0);
        x.mark(0, 5000, 0, 0, 0);
        for (int what = 0; what <= 4; what++) {
            for (int r : NO_RUN) {
                due.is("group of " + r, x.group(r, 0, what), -2);
            }
            int[] none = {-1, 2, 3, 40, LEAST, MOST};
            for (int g : none) {
                due.is("group " + g, x.group(0, g, what), -2);
            }
        }
        int[] noWhat = {-1, 5, LEAST, MOST};
        for (int what : noWhat) {
            due.is("group what " + what, x.group(0, 0, what), -2);
        }
        due.is("the last", x.group(0, 1, 0), 2);
        due.is("no finding", x.count(6), 0);
    }

    private static void facts(PigLine x, int r, int g, int... facts) {
        for (int what = 0; what < facts.length; what++) {
            due.is("group " + g + " " + what, x.group(r, g, what), facts[what]);
        }
    }

    private static void box() {
        due.sentence("Terms: a GROUP's BOX: the least WAY, the greatest end, the greatest DEPTH");
        PigLine x = new PigLine();
        // Way, end and depth come from marks of their own, none of them the first or the last.
        x.mark(0, 500, 0, 5, 10);
        x.mark(0, 460, 0, 6, 1);
        x.mark(0, 505, 0, 7, 900);
        x.mark(0, 520, 0, 90, 2);
        x.mark(0, 530, 0, 8, 3);
        x.mark(0, 3000, 0, 99, 4);
        due.is("two", x.groups(0), 2);
        facts(x, 0, 0, 0, 5, 460, 1405, 90);
        facts(x, 0, 1, 5, 1, 3000, 3004, 99);
    }

    private static void boxOfOne() {
        due.sentence("Terms: a BOX at the edges");
        PigLine x = new PigLine();
        x.mark(1, 0, 0, 0, 0);
        x.mark(1, 4000000, 11, 100, 10000);
        facts(x, 1, 0, 0, 1, 0, 0, 0);
        facts(x, 1, 1, 1, 1, 4000000, 4010000, 100);
    }
}
