/** Promises 1 to 6: a new object, reel, lose, put, get, copy. */
public final class ReelsTest {
    private static final int LEAST = Integer.MIN_VALUE, MOST = Integer.MAX_VALUE;
    private static final Due due = new Due();

    public static void main(String[] args) {
        newObject();
        reel();
        lose();
        put();
        get();
        copy();
        due.end();
    }

    private static void newObject() {
        PigLine x = new PigLine();
        for (int r = 0; r < 8; r++) {
            due.is("new: lose " + r, x.lose(r), -11);
        }
        due.is("new: count 6 tells NULL", x.count(6), 1);
        x = new PigLine();
        int[] counts = {0, 0, 0, 0, 4, 0, 0};
        for (int what = 0; what < counts.length; what++) {
            due.is("new: count " + what, x.count(what), counts[what]);
        }
        for (int r = 0; r < 2; r++) {
            for (int what = 0; what < 4; what++) {
                due.is("new: run " + r + " " + what, x.run(r, what), 0);
            }
            due.is("new: match", x.match(r), 0);
            due.is("new: groups", x.groups(r), 0);
        }
        due.is("new: plan", x.plan(), 0);
        due.is("new: years", x.years(), 0);
    }

    private static void reel() {
        PigLine x = new PigLine();
        due.is("reel below", x.reel(-1, 0, 1), -2);
        due.is("reel above", x.reel(8, 0, 1), -2);
        due.is("reel least", x.reel(LEAST, 0, 1), -2);
        due.is("reel greatest", x.reel(MOST, 0, 1), -2);
        due.is("form below", x.reel(0, -1, 1), -2);
        due.is("form above", x.reel(0, 3, 1), -2);
        due.is("151 items", x.reel(0, 0, 151), -2);
        due.is("BAD ahead of SIZE", x.reel(8, 0, -1), -2);
        due.is("BAD form ahead of SIZE", x.reel(0, 3, -1), -2);
        due.is("BAD is no finding", x.count(6), 0);
        due.is("SIZE", x.reel(0, 0, -1), -15);
        due.is("SIZE least", x.reel(0, 0, LEAST), -15);
        due.is("SIZE is told", x.count(6), 5);
        due.is("still LOST", x.lose(0), -11);
        due.is("no items", x.reel(0, 0, 0), 0);
        due.is("150 items", x.reel(7, 2, 150), 150);
        due.is("last item is 0", x.get(7, 2, 149), 0);
        due.is("put", x.put(7, 2, 149, 5), 1);
        due.is("put the first", x.put(7, 2, 0, 5), 1);
        due.is("refused reel leaves it", x.reel(7, 2, -1), -15);
        due.is("refused reel leaves it too", x.reel(7, 2, 151), -2);
        due.is("item stays", x.get(7, 2, 149), 5);
        due.is("again", x.reel(7, 2, 150), 150);
        due.is("a new row is 0", x.get(7, 2, 149), 0);
        due.is("a new row is 0 from the first on", x.get(7, 2, 0), 0);
        due.is("another form", x.reel(7, 0, 3), 3);
        due.is("old form is gone", x.put(7, 2, 0, 1), -13);
        due.is("old size is gone", x.put(7, 0, 3, 1), -12);
    }

    private static void lose() {
        PigLine x = new PigLine();
        due.is("lose below", x.lose(-1), -2);
        due.is("lose above", x.lose(8), -2);
        due.is("BAD is no finding", x.count(6), 0);
        x.reel(3, 1, 17);
        due.is("lose", x.lose(3), 17);
        due.is("lose again", x.lose(3), -11);
        due.is("NULL is told", x.count(6), 1);
        x.reel(2, 1, 0);
        due.is("lose one without items", x.lose(2), 0);
        due.is("it is LOST", x.lose(2), -11);
        x.reel(1, 2, 4);
        x.put(1, 2, 3, 9);
        x.lose(1);
        due.is("a LOST wheel has no ticks", x.run(0, 0), 0);
        x.reel(1, 2, 4);
        due.is("nothing comes back", x.get(1, 2, 3), 0);
    }

    private static void put() {
        PigLine x = new PigLine();
        due.is("put below", x.put(-1, 0, 0, 0), -2);
        due.is("put above", x.put(8, 0, 0, 0), -2);
        due.is("put form", x.put(0, 3, 0, 0), -2);
        due.is("put form below", x.put(0, -1, 0, 0), -2);
        due.is("put BAD is no finding", x.count(6), 0);
        due.is("NULL ahead of CAST and INDEX", x.put(0, 1, -1, 0), -11);
        x.reel(0, 0, 2);
        x.reel(1, 1, 2);
        x.reel(2, 2, 2);
        due.is("CAST ahead of INDEX", x.put(0, 1, 9, 0), -13);
        due.is("CAST is told", x.count(6), 3);
        due.is("INDEX above", x.put(0, 0, 2, 0), -12);
        due.is("INDEX below", x.put(0, 0, -1, 0), -12);
        due.is("INDEX least", x.put(0, 0, LEAST, 0), -12);
        due.is("INDEX greatest", x.put(0, 0, MOST, 0), -12);
        due.is("INDEX is told", x.count(6), 2);
        int[][] rows = {{0, 127, 127}, {0, 128, -128}, {0, 511, -1}, {0, -129, 127}, {1, 32767, 32767},
            {1, 32768, -32768}, {1, 65537, 1}, {1, -32769, 32767}, {2, MOST, MOST}, {2, LEAST, LEAST}};
        for (int[] row : rows) {
            due.is("put " + row[1], x.put(row[0], row[0], 1, row[1]), 1);
            due.is("it became " + row[2], x.get(row[0], row[0], 1), row[2]);
            due.is("its neighbour stays", x.get(row[0], row[0], 0), 0);
        }
        due.is("what went well is no finding", x.count(6), 2);
    }

    private static void get() {
        PigLine x = new PigLine();
        due.is("get below", x.get(-1, 0, 0), LEAST);
        due.is("get above", x.get(8, 0, 0), LEAST);
        due.is("get form", x.get(0, 3, 0), LEAST);
        due.is("get form below", x.get(0, -1, 0), LEAST);
        due.is("get BAD is no finding", x.count(6), 0);
        due.is("get NULL", x.get(0, 0, 0), LEAST);
        due.is("NULL is told", x.count(6), 1);
        x.reel(0, 1, 2);
        due.is("get CAST ahead of INDEX", x.get(0, 0, 2), LEAST);
        due.is("CAST is told", x.count(6), 3);
        due.is("get INDEX", x.get(0, 1, 2), LEAST);
        due.is("INDEX is told", x.count(6), 2);
        due.is("get INDEX below", x.get(0, 1, -1), LEAST);
        x.put(0, 1, 1, 77);
        due.is("get", x.get(0, 1, 1), 77);
        x.reel(8, 0, 0);
        due.is("finding stays", x.count(6), 2);
    }

    private static void copy() {
        PigLine x = new PigLine();
        due.is("copy from below", x.copy(-1, 0, 0, 0, 0), -2);
        due.is("copy from above", x.copy(8, 0, 0, 0, 0), -2);
        due.is("copy to below", x.copy(0, 0, -1, 0, 0), -2);
        due.is("copy to above", x.copy(0, 0, 8, 0, 0), -2);
        due.is("copy BAD is no finding", x.count(6), 0);
        x.reel(0, 1, 5);
        due.is("copy to a LOST one", x.copy(0, 0, 1, 0, 1), -11);
        due.is("copy from a LOST one", x.copy(1, 0, 0, 0, 1), -11);
        due.is("NULL ahead of INDEX", x.copy(0, -1, 1, 0, 1), -11);
        x.reel(1, 0, 5);
        due.is("STORE ahead of INDEX", x.copy(0, -1, 1, 0, 1), -14);
        due.is("STORE even of none", x.copy(0, 0, 1, 0, 0), -14);
        due.is("STORE is told", x.count(6), 4);
        x.reel(1, 1, 4);
        for (int i = 0; i < 5; i++) {
            x.put(0, 1, i, 10 + i);
        }
        int[][] outside = {{-1, 0, 1}, {0, -1, 1}, {0, 0, -1}, {0, 0, 5}, {1, 0, 5}, {5, 0, 1}, {0, 4, 1}, {3, 0, 3},
            {6, 0, 0}, {0, 5, 0}, {MOST, 0, 1}, {0, MOST, 1}, {1, 1, MOST}, {MOST, MOST, MOST}, {0, 0, LEAST},
            {LEAST, 0, 0}, {0, LEAST, 0}, {LEAST, LEAST, LEAST}, {MOST, 0, LEAST}};
        for (int[] o : outside) {
            due.is("INDEX " + o[0] + " " + o[1] + " " + o[2], x.copy(0, o[0], 1, o[1], o[2]), -12);
        }
        due.is("INDEX is told", x.count(6), 2);
        same(x, 1, 0, 0, 0, 0);
        due.is("none at the ends", x.copy(0, 5, 1, 4, 0), 1);
        due.is("copy", x.copy(0, 1, 1, 2, 2), 1);
        same(x, 1, 0, 0, 11, 12);
        same(x, 0, 10, 11, 12, 13, 14);
        due.is("copy all of it", x.copy(1, 0, 0, 0, 4), 1);
        same(x, 0, 0, 0, 11, 12, 14);
        for (int i = 0; i < 5; i++) {
            x.put(0, 1, i, 10 + i);
        }
        due.is("copy onto itself, onward", x.copy(0, 0, 0, 1, 4), 1);
        same(x, 0, 10, 10, 11, 12, 13);
        due.is("copy onto itself, backward", x.copy(0, 2, 0, 0, 3), 1);
        same(x, 0, 11, 12, 13, 12, 13);
    }

    private static void same(PigLine x, int r, int... items) {
        for (int i = 0; i < items.length; i++) {
            due.is("reel " + r + " item " + i, x.get(r, 1, i), items[i]);
        }
    }
}
