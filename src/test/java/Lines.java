import java.util.Arrays;

/** What many tests begin with: reels with items, joints that are felt, a book. */
final class Lines {
    static final int LEAST = Integer.MIN_VALUE, MOST = Integer.MAX_VALUE;
    static final int BYTES = 0, SHORTS = 1, INTS = 2;

    private Lines() { }

    /** REEL r is a new row of the FORM with these items. */
    static void fill(PigLine x, int r, int form, int... items) {
        x.reel(r, form, items.length);
        for (int i = 0; i < items.length; i++) {
            x.put(r, form, i, items[i]);
        }
    }

    /** REEL r is a new row of the FORM with n items, all the same; few calls make many items. */
    static void fillAlike(PigLine x, int r, int form, int n, int item) {
        x.reel(r, form, n);
        x.put(r, form, 0, item);
        for (int done = 1; done < n; done += done) {
            x.copy(r, 0, r, done, Math.min(done, n - done));
        }
    }

    /** A RUN with one WHEEL that feels JOINTS of these LENGTHS: a TICK and a WELD for each. */
    static void feel(PigLine x, int r, int... lengths) {
        int[] welds = new int[lengths.length];
        Arrays.fill(welds, 1);
        fill(x, 4 * r, INTS, lengths);
        fill(x, 4 * r + 3, BYTES, welds);
    }

    /** A new object with this BOOK. */
    static PigLine book(int... lengths) {
        PigLine x = new PigLine();
        for (int length : lengths) {
            x.joint(length);
        }
        return x;
    }

    /** Both RUNS feel a BOOK of one JOINT of 1000; RUN 1 has one of 7000 ahead, that is left out. */
    static PigLine oneJoint() {
        PigLine x = book(1000);
        feel(x, 0, 1000);
        feel(x, 1, 7000, 1000);
        return x;
    }

    /** n MARKS of a RUN, all alike. */
    static void marks(PigLine x, int r, int n, int way, int clock, int depth, int length) {
        for (int m = 0; m < n; m++) {
            x.mark(r, way, clock, depth, length);
        }
    }

    /** n WORKS, all alike. */
    static void works(PigLine x, int n, int cost, int year) {
        for (int w = 0; w < n; w++) {
            x.work(cost, year);
        }
    }
}
