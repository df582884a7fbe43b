/** Promises 7 to 9: run, way, felt. */
public final class RunsTest {
    private static final Due due = new Due();

    public static void main(String[] args) {
        bad();
        steps();
        readingsEdges();
        ticks();
        joints();
        sixtyJoints();
        due.end();
    }

    /** A reel of ints with these items. */
    private static void fill(PigLine x, int r, int... items) {
        x.reel(r, 2, items.length);
        for (int i = 0; i < items.length; i++) {
            x.put(r, 2, i, items[i]);
        }
    }

    private static void ways(PigLine x, int r, int... ways) {
        due.is("ticks", x.run(r, 0), ways.length);
        for (int t = 0; t < ways.length; t++) {
            due.is("run " + r + " way " + t, x.way(r, t), ways[t]);
        }
        due.is("last way", x.run(r, 2), ways.length == 0 ? 0 : ways[ways.length - 1]);
        due.is("way behind", x.way(r, ways.length), -2);
    }

    private static void bad() {
        PigLine x = new PigLine();
        fill(x, 0, 1, 1);
        fill(x, 3, 0, 1);
        int[] noRun = {-1, 2, Integer.MIN_VALUE, Integer.MAX_VALUE};
        for (int r : noRun) {
            due.is("run " + r, x.run(r, 0), -2);
            due.is("way " + r, x.way(r, 0), -2);
            due.is("felt " + r, x.felt(r, 0, 0), -2);
        }
        due.is("run what below", x.run(0, -1), -2);
        due.is("run what above", x.run(0, 4), -2);
        due.is("way below", x.way(0, -1), -2);
        due.is("way above", x.way(0, 2), -2);
        due.is("way of a run without ticks", x.way(1, 0), -2);
        due.is("felt below", x.felt(0, -1, 0), -2);
        due.is("felt above", x.felt(0, 1, 0), -2);
        due.is("felt what below", x.felt(0, 0, -1), -2);
        due.is("felt what above", x.felt(0, 0, 2), -2);
        due.is("no findings", x.count(6), 0);
    }

    private static void steps() {
        int[][] orders = {{0, 1, 2}, {0, 2, 1}, {1, 0, 2}, {1, 2, 0}, {2, 0, 1}, {2, 1, 0}};
        for (int[] order : orders) {
            for (int r = 0; r < 2; r++) {
                PigLine x = new PigLine();
                fill(x, 4 * r + order[0], -1, 5, 5, -1, -1, 9);
                fill(x, 4 * r + order[1], -1, 7, 7, 3, -1, 9);
                fill(x, 4 * r + order[2], -1, 20, -1, -1, -1, 2);
                ways(x, r, 0, 7, 14, 17, 20, 29);
                due.is("blind", x.run(r, 1), 2);
                due.is("the other run", x.run(1 - r, 0), 0);
            }
        }
    }

    private static void readingsEdges() {
        PigLine x = new PigLine();
        fill(x, 1, 30000, 30001, 0, -1, -1);
        ways(x, 0, 30000, 60000, 60000, 60000, 60000);
        due.is("blind: 30001, -1, -1", x.run(0, 1), 3);
        x.reel(4, 0, 2);
        x.put(4, 0, 0, 200);
        x.put(4, 0, 1, 100);
        ways(x, 1, 0, 100);
        due.is("a byte below 0 is blind", x.run(1, 1), 1);
        x.reel(4, 1, 150);
        for (int i = 0; i < 150; i++) {
            x.put(4, 1, i, 30000);
        }
        due.is("the longest way", x.run(1, 2), 4500000);
    }

    private static void ticks() {
        PigLine x = new PigLine();
        fill(x, 0, 4);
        fill(x, 1, 6, 6, 6);
        fill(x, 2, 5, 5);
        fill(x, 3, 1, 1, 1, 1, 1);
        ways(x, 0, 5, 11, 17);
        due.is("feelers beyond the ticks feel nothing", x.run(0, 3), 3);
        x.lose(1);
        ways(x, 0, 5, 10);
        x.lose(2);
        ways(x, 0, 4);
        x.lose(0);
        ways(x, 0);
        due.is("no joints without ticks", x.run(0, 3), 0);
        x.reel(0, 0, 0);
        ways(x, 0);
    }

    private static void joints() {
        PigLine x = new PigLine();
        fill(x, 4, 10, 20, 0, 30, 40, 50);
        due.is("no feelers, no joints", x.run(1, 3), 0);
        fill(x, 7, 0, -5, 1, 0, 1 << 20);
        due.is("joints", x.run(1, 3), 3);
        int[][] joints = {{0, 30}, {30, 0}, {30, 70}};
        for (int j = 0; j < joints.length; j++) {
            due.is("begins " + j, x.felt(1, j, 0), joints[j][0]);
            due.is("length " + j, x.felt(1, j, 1), joints[j][1]);
        }
        due.is("no joint behind the last weld", x.felt(1, 3, 0), -2);
        due.is("nothing in run 0", x.run(0, 3), 0);
        x.put(7, 2, 0, 1);
        due.is("the first from way 0", x.felt(1, 0, 1), 10);
        due.is("four now", x.run(1, 3), 4);
        x.lose(7);
        due.is("feelers lost", x.run(1, 3), 0);
    }

    private static void sixtyJoints() {
        PigLine x = new PigLine();
        x.reel(0, 0, 100);
        x.reel(3, 0, 100);
        for (int i = 0; i < 100; i++) {
            x.put(0, 0, i, 2);
            x.put(3, 0, i, 1);
        }
        due.is("60 count", x.run(0, 3), 60);
        due.is("the last of them", x.felt(0, 59, 0), 118);
        due.is("its length", x.felt(0, 59, 1), 2);
        due.is("the 61st", x.felt(0, 60, 0), -2);
        due.is("all ways count", x.run(0, 2), 200);
        due.is("60 extra", x.match(0), 6000);
        x.mark(0, 119, 0, 0, 0);
        x.mark(0, 120, 0, 0, 0);
        due.is("a mark in the 60th", x.about(0, 0, 4), 59);
        due.is("a mark behind it", x.about(0, 1, 4), -1);
    }
}
