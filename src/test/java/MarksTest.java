/** Promises 15 to 20: mark, clear, about, near, groups, group. */
public final class MarksTest {
    private static final Due due = new Due();

    public static void main(String[] args) {
        mark();
        clear();
        about();
        feltJointOfMark();
        near();
        gaps();
        clocks();
        groups();
        due.end();
    }

    private static void mark() {
        PigLine x = new PigLine();
        int[][] bad = {{-1, 0, 0, 0, 0}, {2, 0, 0, 0, 0}, {0, -1, 0, 0, 0}, {0, 4000001, 0, 0, 0}, {0, 0, -1, 0, 0},
            {0, 0, 12, 0, 0}, {0, 0, 0, -1, 0}, {0, 0, 0, 101, 0}, {0, 0, 0, 0, -1}, {0, 0, 0, 0, 10001}};
        refused(x, bad);
        due.is("nothing came", x.count(1) + x.count(2), 0);
        due.is("all least", x.mark(0, 0, 0, 0, 0), 0);
        due.is("all greatest", x.mark(0, 4000000, 11, 100, 10000), 1);
        due.is("the other run", x.mark(1, 1, 2, 3, 4), 0);
        for (int m = 2; m < 40; m++) {
            due.is("mark " + m, x.mark(0, m, 0, 0, 0), m);
        }
        refused(x, bad);
        due.is("FULL", x.mark(0, 0, 0, 0, 0), -3);
        due.is("run 1 is not", x.mark(1, 0, 0, 0, 0), 1);
        due.is("40", x.count(1), 40);
        due.is("2", x.count(2), 2);
    }

    private static void refused(PigLine x, int[][] bad) {
        for (int[] b : bad) {
            due.is("mark " + java.util.Arrays.toString(b), x.mark(b[0], b[1], b[2], b[3], b[4]), -2);
        }
    }

    private static void clear() {
        PigLine x = new PigLine();
        due.is("clear below", x.clear(-1), -2);
        due.is("clear above", x.clear(2), -2);
        x.mark(0, 1, 1, 1, 1);
        x.mark(1, 1, 1, 1, 1);
        x.mark(1, 1, 1, 1, 1);
        due.is("clear run 1", x.clear(1), 2);
        due.is("again", x.clear(1), 0);
        due.is("run 0 keeps", x.count(1), 1);
        due.is("no mark", x.about(1, 0, 0), -2);
        due.is("from 0 again", x.mark(1, 9, 1, 1, 1), 0);
        due.is("the new one", x.about(1, 0, 0), 9);
    }

    private static void about() {
        PigLine x = new PigLine();
        x.mark(1, 7, 8, 9, 10);
        x.mark(0, 7, 0, 0, 0);
        x.mark(0, 7, 6, 0, 0);
        due.is("about 5 needs no call ahead", x.about(0, 1, 5), 1);
        x.mark(0, 7, 3, 0, 0);
        x.near(0, 3);
        due.is("about 5 is never out of date", x.about(0, 1, 5), 0);
        x.clear(0);
        int[] told = {7, 8, 9, 10, -1, 0};
        for (int what = 0; what < told.length; what++) {
            due.is("about " + what, x.about(1, 0, what), told[what]);
        }
        int[][] bad = {{-1, 0, 0}, {2, 0, 0}, {0, 0, 0}, {1, -1, 0}, {1, 1, 0}, {1, 0, -1}, {1, 0, 6},
            {1, Integer.MAX_VALUE, 0}, {1, Integer.MIN_VALUE, 4}, {1, 1, 5}};
        for (int[] b : bad) {
            due.is("about " + java.util.Arrays.toString(b), x.about(b[0], b[1], b[2]), -2);
        }
    }

    private static void feltJointOfMark() {
        PigLine x = new PigLine();
        x.reel(0, 0, 4);
        x.reel(3, 0, 4);
        int[] lengths = {10, 0, 20, 5};
        for (int i = 0; i < 4; i++) {
            x.put(0, 0, i, lengths[i]);
            x.put(3, 0, i, i < 3 ? 1 : 0);
        }
        int[][] due4 = {{0, 0}, {9, 0}, {10, 2}, {29, 2}, {30, -1}, {34, -1}, {4000000, -1}};
        for (int m = 0; m < due4.length; m++) {
            x.mark(0, due4[m][0], 0, 0, 50);
            due.is("joint of way " + due4[m][0], x.about(0, m, 4), due4[m][1]);
        }
        x.put(3, 0, 3, 1);
        due.is("a weld more", x.about(0, 4, 4), 3);
        x.mark(1, 0, 0, 0, 0);
        due.is("run 1 feels nothing", x.about(1, 0, 4), -1);
    }

    private static void near() {
        PigLine x = new PigLine();
        int[][] bad = {{-1, 0}, {100001, 0}, {0, -1}, {0, 7}, {Integer.MIN_VALUE, 0}, {0, Integer.MAX_VALUE}};
        x.mark(0, 0, 0, 0, 0);
        x.mark(0, 50, 1, 0, 0);
        x.mark(0, 101, 1, 0, 0);
        x.mark(0, 0, 2, 0, 0);
        due.is("50 and 1 at first", x.groups(0), 2);
        x.mark(1, 0, 0, 0, 0);
        x.mark(1, 0, 2, 0, 0);
        due.is("two hours are too many at first", x.groups(1), 2);
        for (int[] b : bad) {
            due.is("near " + b[0] + " " + b[1], x.near(b[0], b[1]), -2);
        }
        due.is("refused: as they were", x.groups(0), 2);
        due.is("near", x.near(51, 1), 1);
        due.is("one", x.groups(0), 1);
        due.is("near least", x.near(0, 0), 1);
        due.is("four", x.groups(0), 4);
        due.is("near greatest", x.near(100000, 6), 1);
        due.is("one again", x.groups(0), 1);
    }

    private static void gaps() {
        for (int turned = 0; turned < 2; turned++) {
            PigLine x = new PigLine();
            x.near(10, 0);
            int[][] ends = {{100, 20}, {130, 0}};
            x.mark(0, ends[turned][0], 0, 0, ends[turned][1]);
            x.mark(0, ends[1 - turned][0], 0, 0, ends[1 - turned][1]);
            due.is("10 between", x.groups(0), 1);
            x.near(9, 0);
            due.is("more than 9 between", x.groups(0), 2);
        }
        PigLine x = new PigLine();
        x.near(0, 0);
        x.mark(0, 100, 0, 0, 50);
        x.mark(0, 150, 0, 0, 5);
        due.is("end to beginning", x.groups(0), 1);
        x.mark(0, 110, 0, 0, 1);
        due.is("one within the other", x.groups(0), 1);
        x.mark(0, 156, 0, 0, 1);
        due.is("one beside", x.groups(0), 2);
        x.clear(0);
        x.near(100000, 0);
        x.mark(0, 0, 0, 0, 10000);
        x.mark(0, 110000, 0, 0, 0);
        due.is("100000 between", x.groups(0), 1);
        x.clear(0);
        x.mark(0, 0, 0, 0, 10000);
        x.mark(0, 110001, 0, 0, 0);
        due.is("100001 between", x.groups(0), 2);
    }

    private static void clocks() {
        int[][] apart = {{0, 11, 1}, {11, 0, 1}, {0, 6, 6}, {1, 10, 3}, {2, 9, 5}, {3, 3, 0}, {0, 7, 5}};
        for (int[] a : apart) {
            for (int turn = 0; turn <= 6; turn++) {
                PigLine x = new PigLine();
                x.near(0, turn);
                x.mark(1, 5, a[0], 0, 0);
                x.mark(1, 5, a[1], 0, 0);
                due.is(a[0] + " and " + a[1] + " with " + turn, x.groups(1), a[2] <= turn ? 1 : 2);
            }
        }
    }

    private static void groups() {
        PigLine x = new PigLine();
        x.near(10, 1);
        // A chain told from its ends inward, a second one between them in order.
        int[][] marks = {{100, 0, 10, 5}, {200, 3, 90, 5}, {140, 0, 20, 5}, {205, 4, 1, 100}, {120, 11, 70, 5},
            {900, 6, 5, 0}, {110, 0, 3, 3}, {130, 0, 4, 60}};
        for (int[] m : marks) {
            x.mark(0, m[0], m[1], m[2], m[3]);
        }
        due.is("groups", x.groups(0), 3);
        int[] group = {0, 1, 0, 1, 0, 2, 0, 0};
        for (int m = 0; m < group.length; m++) {
            due.is("group of " + m, x.about(0, m, 5), group[m]);
        }
        int[][] facts = {{0, 5, 100, 190, 70}, {1, 2, 200, 305, 90}, {5, 1, 900, 900, 5}};
        for (int g = 0; g < facts.length; g++) {
            for (int what = 0; what < 5; what++) {
                due.is("group " + g + " " + what, x.group(0, g, what), facts[g][what]);
            }
        }
        int[][] bad = {{-1, 0, 0}, {2, 0, 0}, {0, -1, 0}, {0, 3, 0}, {0, 0, -1}, {0, 0, 5}, {1, 0, 0},
            {0, Integer.MAX_VALUE, 0}, {0, Integer.MIN_VALUE, 0}};
        for (int[] b : bad) {
            due.is("group " + java.util.Arrays.toString(b), x.group(b[0], b[1], b[2]), -2);
        }
        due.is("groups below", x.groups(-1), -2);
        due.is("groups above", x.groups(2), -2);
        due.is("run 1 has none", x.groups(1), 0);
        nothings();
        fullChain();
    }

    private static void nothings() {
        PigLine x = new PigLine();
        x.mark(0, 0, 0, 0, 0);
        int[] facts = {0, 1, 0, 0, 0};
        for (int what = 0; what < facts.length; what++) {
            due.is("a mark of nothing " + what, x.group(0, 0, what), facts[what]);
        }
    }

    /** 40 marks, each near to the next by way only, told in an order that jumps about. */
    private static void fullChain() {
        PigLine x = new PigLine();
        for (int m = 0; m < 40; m++) {
            x.mark(1, m * 17 % 40 * 60, 0, m, 10);
        }
        due.is("one chain", x.groups(1), 1);
        due.is("all of them", x.group(1, 0, 1), 40);
        due.is("to the end", x.group(1, 0, 3), 2350);
        x.near(49, 6);
        due.is("each alone", x.groups(1), 40);
        due.is("the last", x.group(1, 39, 0), 39);
    }
}
