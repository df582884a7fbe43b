/** Promises 10 to 14: joint, wipe, costs, match, paired. */
public final class BookTest {
    private static final Due due = new Due();

    public static void main(String[] args) {
        joint();
        wipe();
        costs();
        bad();
        match();
        ties();
        greatest();
        due.end();
    }

    /** Felt joints of these lengths in a run: a tick and a weld for each. */
    private static void feel(PigLine x, int r, int... lengths) {
        x.reel(4 * r, 2, lengths.length);
        x.reel(4 * r + 3, 0, lengths.length);
        for (int i = 0; i < lengths.length; i++) {
            x.put(4 * r, 2, i, lengths[i]);
            x.put(4 * r + 3, 0, i, 1);
        }
    }

    private static PigLine line(int[] book, int[] felt) {
        PigLine x = new PigLine();
        for (int length : book) {
            x.joint(length);
        }
        feel(x, 0, felt);
        return x;
    }

    private static void pairs(String what, PigLine x, int r, int cost, int... partners) {
        due.is(what + ": cost", x.match(r), cost);
        for (int j = 0; j < partners.length; j++) {
            due.is(what + ": joint " + j, x.paired(r, j), partners[j]);
        }
        due.is(what + ": no joint more", x.paired(r, partners.length), -2);
    }

    private static void joint() {
        PigLine x = new PigLine();
        due.is("length 0", x.joint(0), -2);
        due.is("length 100001", x.joint(100001), -2);
        due.is("length least", x.joint(Integer.MIN_VALUE), -2);
        due.is("nothing came", x.count(0), 0);
        due.is("length 1", x.joint(1), 0);
        due.is("length 100000", x.joint(100000), 1);
        for (int j = 2; j < 40; j++) {
            due.is("joint " + j, x.joint(5), j);
        }
        due.is("BAD ahead of FULL", x.joint(0), -2);
        due.is("FULL", x.joint(5), -3);
        due.is("40", x.count(0), 40);
        due.is("no finding", x.count(6), 0);
    }

    private static void wipe() {
        PigLine x = new PigLine();
        due.is("wipe none", x.wipe(), 0);
        x.joint(1);
        x.joint(2);
        due.is("wipe two", x.wipe(), 2);
        due.is("none", x.count(0), 0);
        due.is("no joint", x.paired(0, 0), -2);
        due.is("from 0 again", x.joint(7), 0);
        x.costs(3, 4);
        x.wipe();
        x.joint(7);
        due.is("costs stay", x.match(0), 3);
    }

    private static void costs() {
        PigLine x = line(new int[] {5}, new int[] {});
        feel(x, 1, 1, 1);
        x.wipe();
        x.joint(9000);
        due.is("100 and twice 100 at first", x.match(1), 300);
        due.is("missed below", x.costs(-1, 0), -2);
        due.is("extra below", x.costs(0, -1), -2);
        due.is("missed above", x.costs(1000001, 0), -2);
        due.is("extra above", x.costs(0, 1000001), -2);
        due.is("refused: as they were", x.match(1), 300);
        due.is("costs", x.costs(7, 11), 1);
        due.is("7 and twice 11", x.match(1), 29);
        due.is("none", x.costs(0, 0), 1);
        due.is("nothing", x.match(1), 0);
        due.is("greatest", x.costs(1000000, 1000000), 1);
        due.is("a pair is less", x.match(1), 1008999);
    }

    private static void bad() {
        PigLine x = line(new int[] {5, 6}, new int[] {5, 6});
        int[] noRun = {-1, 2, Integer.MIN_VALUE, Integer.MAX_VALUE};
        for (int r : noRun) {
            due.is("match " + r, x.match(r), -2);
            due.is("paired " + r, x.paired(r, 0), -2);
        }
        due.is("paired below", x.paired(0, -1), -2);
        due.is("paired above", x.paired(0, 2), -2);
        due.is("paired greatest", x.paired(0, Integer.MAX_VALUE), -2);
    }

    private static void match() {
        pairs("alike", line(new int[] {300, 500, 700}, new int[] {310, 490, 700}), 0, 20, 0, 1, 2);
        pairs("one missed", line(new int[] {300, 5000, 700}, new int[] {310, 690}), 0, 120, 0, -1, 1);
        pairs("one extra", line(new int[] {300, 700}, new int[] {300, 2000, 700}), 0, 100, 0, 2);
        pairs("none fits", line(new int[] {300, 300}, new int[] {9000}), 0, 300, -1, -1);
        pairs("nothing felt", line(new int[] {300, 400}, new int[] {}), 0, 200, -1, -1);
        pairs("in order on both sides", line(new int[] {300, 900}, new int[] {900, 300}), 0, 200, 1, -1);
        pairs("an empty book", line(new int[] {}, new int[] {900, 300}), 0, 200);
        PigLine x = line(new int[] {300}, new int[] {300});
        feel(x, 1, 9000, 300);
        pairs("run 0", x, 0, 0, 0);
        pairs("run 1", x, 1, 100, 1);
        x.put(4, 2, 0, 295);
        x.put(4, 2, 1, 350);
        pairs("after a put", x, 1, 105, 0);
    }

    private static void ties() {
        // 200 off: as dear as one missed and one extra; a pair comes ahead.
        pairs("a pair ahead", line(new int[] {300}, new int[] {500}), 0, 200, 0);
        pairs("201 off", line(new int[] {300}, new int[] {501}), 0, 200, -1);
        // From the end: the last of the like ones is paired.
        pairs("the last felt", line(new int[] {300}, new int[] {300, 300, 300}), 0, 200, 2);
        pairs("the last of the book", line(new int[] {300, 300, 300}, new int[] {300}), 0, 200, -1, -1, 0);
        // From the end the book's last is left out ahead of the felt's last: the book's first is paired.
        PigLine x = line(new int[] {300, 900}, new int[] {900, 300});
        pairs("missed ahead of extra", x, 0, 200, 1, -1);
        x = line(new int[] {10, 500}, new int[] {500, 10});
        x.costs(0, 0);
        pairs("a pair that costs nothing ahead of two left out for nothing", x, 0, 0, 1, -1);
        x.costs(0, 5);
        pairs("the dearer extra is spared", x, 0, 5, 1, -1);
        x.costs(5, 0);
        pairs("the dearer missed is spared", x, 0, 5, 1, -1);
    }

    private static void greatest() {
        PigLine x = new PigLine();
        for (int j = 0; j < 40; j++) {
            x.joint(100000);
        }
        x.reel(0, 0, 60);
        x.reel(3, 0, 60);
        for (int i = 0; i < 60; i++) {
            x.put(3, 0, i, 1);
        }
        x.costs(1000000, 1000000);
        due.is("40 pairs and 20 extra", x.match(0), 24000000);
        due.is("the last with the last", x.paired(0, 39), 59);
        due.is("the first", x.paired(0, 0), 20);
        x.costs(1, 1);
        due.is("all left out", x.match(0), 100);
        due.is("left out", x.paired(0, 39), -1);
    }
}
