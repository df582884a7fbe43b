/** The boundary sentences of the document on REELS (promises 1 to 6), each with objects of its own. */
public final class ReelEdgesTest {
    private static final int LEAST = Lines.LEAST, MOST = Lines.MOST;
    private static final int[] NO_REEL = {-1, 8, LEAST, MOST};
    private static final int[] NO_FORM = {-1, 3, LEAST, MOST};
    private static final Due due = new Due();

    public static void main(String[] args) {
        lostAtFirst();
        emptyAtFirst();
        forms();
        itemsOfAReel();
        itemsAreNothingAtFirst();
        itemsAreNothingOnceMore();
        reelRefusals();
        sizeFinding();
        badAheadOfSize();
        loseTellsItems();
        loseRefusals();
        putCutsBytes();
        putCutsShorts();
        putKeepsInts();
        putRefusals();
        nullFinding();
        castFinding();
        indexFinding();
        findingsInOrder();
        getRefusals();
        getOfTheLeastInt();
        copyAsTheyWere();
        copyOfNone();
        copyOfAll();
        copyBad();
        copyNull();
        copyStore();
        copyBelow();
        copyNotSoMany();
        copyWrapsNowhere();
        copyFindingsInOrder();
        due.end();
    }

    private static void lostAtFirst() {
        due.sentence("Promise 1: all REELS are LOST");
        for (int r = 0; r < 8; r++) {
            PigLine x = new PigLine();
            due.is("lose " + r, x.lose(r), -11);
            due.is("count 6", x.count(6), 1);
        }
    }

    private static void emptyAtFirst() {
        due.sentence("Promise 1: THE BOOK is empty; no MARKS, WORKS");
        PigLine x = new PigLine();
        for (int what = 0; what <= 3; what++) {
            due.is("count " + what, x.count(what), 0);
        }
        due.is("wipe", x.wipe(), 0);
        due.is("clear 0", x.clear(0), 0);
        due.is("clear 1", x.clear(1), 0);
        due.is("joint", x.joint(1), 0);
        due.is("mark 0", x.mark(0, 0, 0, 0, 0), 0);
        due.is("mark 1", x.mark(1, 0, 0, 0, 0), 0);
        due.is("work", x.work(1, 1), 0);
    }

    private static void forms() {
        due.sentence("Terms: a FORM: 0 bytes, 1 shorts, 2 ints");
        int[] of70000 = {112, 4464, 70000};
        for (int form = 0; form <= 2; form++) {
            PigLine x = new PigLine();
            due.is("reel of form " + form, x.reel(0, form, 1), 1);
            due.is("put", x.put(0, form, 0, 70000), 1);
            due.is("get", x.get(0, form, 0), of70000[form]);
        }
    }

    private static void itemsOfAReel() {
        due.sentence("Terms: of 0 to 150 items");
        for (int r = 0; r < 8; r++) {
            for (int form = 0; form <= 2; form++) {
                PigLine x = new PigLine();
                due.is("no items", x.reel(r, form, 0), 0);
                due.is("there is no first one", x.put(r, form, 0, 1), -12);
                due.is("one item", x.reel(r, form, 1), 1);
                due.is("149 items", x.reel(r, form, 149), 149);
                due.is("150 items", x.reel(r, form, 150), 150);
                due.is("the last one", x.put(r, form, 149, 7), 1);
                due.is("it is there", x.get(r, form, 149), 7);
                due.is("none behind it", x.put(r, form, 150, 7), -12);
                due.is("151 items", x.reel(r, form, 151), -2);
                due.is("it has 150 still", x.lose(r), 150);
            }
        }
    }

    private static void itemsAreNothingAtFirst() {
        due.sentence("Terms: items (0 at first)");
        PigLine x = new PigLine();
        x.reel(5, 1, 150);
        for (int i = 0; i < 150; i++) {
            due.is("item " + i, x.get(5, 1, i), 0);
        }
    }

    private static void itemsAreNothingOnceMore() {
        due.sentence("Promise 2: a REEL is a new row");
        PigLine x = new PigLine();
        Lines.fillAlike(x, 2, 0, 150, 9);
        x.reel(2, 2, 3);
        x.reel(2, 0, 150);
        for (int i = 0; i < 150; i++) {
            due.is("item " + i + " after a shorter row", x.get(2, 0, i), 0);
        }
        Lines.fillAlike(x, 2, 0, 150, 9);
        x.lose(2);
        x.reel(2, 0, 150);
        due.is("the first after it was LOST", x.get(2, 0, 0), 0);
        due.is("the last after it was LOST", x.get(2, 0, 149), 0);
        x.put(2, 0, 149, 9);
        x.reel(2, 0, 150);
        due.is("the last of a like row", x.get(2, 0, 149), 0);
    }

    private static void reelRefusals() {
        due.sentence("Promise 2: BAD: REEL, FORM, above 150");
        PigLine x = new PigLine();
        for (int r : NO_REEL) {
            due.is("reel " + r, x.reel(r, 0, 1), -2);
        }
        for (int form : NO_FORM) {
            due.is("form " + form, x.reel(0, form, 1), -2);
        }
        due.is("151", x.reel(0, 0, 151), -2);
        due.is("the greatest int", x.reel(0, 0, MOST), -2);
        due.is("no finding", x.count(6), 0);
        for (int r = 0; r < 8; r++) {
            due.is("still LOST", x.lose(r), -11);
        }
    }

    private static void sizeFinding() {
        due.sentence("Terms: 5 SIZE: below 0");
        PigLine x = new PigLine();
        due.is("-1", x.reel(0, 0, -1), -15);
        due.is("it tells", x.count(6), 5);
        due.is("the least int", x.reel(7, 2, LEAST), -15);
        due.is("0 is not below", x.reel(0, 0, 0), 0);
        due.is("7 is LOST still", x.lose(7), -11);
        Lines.fill(x, 3, 1, 8, 9);
        due.is("-1 for a row that is there", x.reel(3, 0, -1), -15);
        items(x, 3, 1, 8, 9);
        due.is("it has its items still", x.lose(3), 2);
    }

    private static void badAheadOfSize() {
        due.sentence("Refusals, the first that fits: BAD ahead of SIZE");
        PigLine x = new PigLine();
        for (int r : NO_REEL) {
            due.is("reel " + r + " of -1", x.reel(r, 0, -1), -2);
        }
        for (int form : NO_FORM) {
            due.is("form " + form + " of -1", x.reel(0, form, -1), -2);
        }
        due.is("no finding", x.count(6), 0);
    }

    private static void loseTellsItems() {
        due.sentence("Promise 3: it is LOST: how many items it had");
        int[] sizes = {0, 1, 150};
        for (int size : sizes) {
            PigLine x = new PigLine();
            x.reel(6, 1, size);
            due.is("lose", x.lose(6), size);
            due.is("it is LOST", x.lose(6), -11);
            due.is("nothing can be put", x.put(6, 1, 0, 1), -11);
        }
    }

    private static void loseRefusals() {
        due.sentence("Promise 3: BAD; NULL");
        PigLine x = new PigLine();
        for (int r : NO_REEL) {
            due.is("lose " + r, x.lose(r), -2);
        }
        due.is("BAD is no finding", x.count(6), 0);
        due.is("NULL", x.lose(0), -11);
        due.is("NULL tells", x.count(6), 1);
    }

    private static void becomes(int form, int v, int item) {
        PigLine x = new PigLine();
        x.reel(4, form, 3);
        due.is("put " + v, x.put(4, form, 1, v), 1);
        due.is("get", x.get(4, form, 1), item);
        due.is("the one ahead", x.get(4, form, 0), 0);
        due.is("the one behind", x.get(4, form, 2), 0);
    }

    private static void putCutsBytes() {
        due.sentence("Promise 4: the lowest bits that it has: bytes");
        int[][] rows = {{127, 127}, {128, -128}, {255, -1}, {256, 0}, {257, 1}, {-128, -128}, {-129, 127},
            {-256, 0}, {32768, 0}, {MOST, -1}, {LEAST, 0}};
        for (int[] row : rows) {
            becomes(0, row[0], row[1]);
        }
    }

    private static void putCutsShorts() {
        due.sentence("Promise 4: the lowest bits that it has: shorts");
        int[][] rows = {{32767, 32767}, {32768, -32768}, {65535, -1}, {65536, 0}, {65537, 1}, {-32768, -32768},
            {-32769, 32767}, {-65536, 0}, {128, 128}, {MOST, -1}, {LEAST, 0}};
        for (int[] row : rows) {
            becomes(1, row[0], row[1]);
        }
    }

    private static void putKeepsInts() {
        due.sentence("Promise 4: the lowest bits that it has: ints");
        int[] all = {MOST, LEAST, -1, 65536, 30001, 1 << 24};
        for (int v : all) {
            becomes(2, v, v);
        }
    }

    private static void putRefusals() {
        due.sentence("Promise 4: BAD");
        PigLine x = new PigLine();
        for (int r : NO_REEL) {
            due.is("reel " + r, x.put(r, 0, 0, 0), -2);
        }
        for (int form : NO_FORM) {
            due.is("form " + form + ", LOST", x.put(0, form, 0, 0), -2);
        }
        x.reel(0, 2, 1);
        for (int form : NO_FORM) {
            due.is("form " + form, x.put(0, form, 0, 0), -2);
        }
        due.is("no finding", x.count(6), 0);
    }

    private static void nullFinding() {
        due.sentence("Terms: 1 NULL: the REEL is LOST");
        for (int r = 0; r < 8; r++) {
            PigLine x = new PigLine();
            due.is("put", x.put(r, 0, 0, 0), -11);
            due.is("it tells", x.count(6), 1);
            x.reel(r, 0, 0);
            due.is("one without items is not LOST", x.put(r, 0, 0, 0), -12);
        }
    }

    private static void castFinding() {
        due.sentence("Terms: 3 CAST: it has another FORM");
        for (int form = 0; form <= 2; form++) {
            for (int as = 0; as <= 2; as++) {
                PigLine x = new PigLine();
                x.reel(3, form, 1);
                due.is("put " + form + " as " + as, x.put(3, as, 0, 5), as == form ? 1 : -13);
                due.is("count 6", x.count(6), as == form ? 0 : 3);
                due.is("the item", x.get(3, form, 0), as == form ? 5 : 0);
                due.is("get " + form + " as " + as, x.get(3, as, 0), as == form ? 5 : LEAST);
            }
        }
    }

    private static void indexFinding() {
        due.sentence("Terms: 2 INDEX: there is no such item");
        int[] sizes = {0, 1, 2, 149, 150};
        for (int size : sizes) {
            PigLine x = new PigLine();
            x.reel(1, 2, size);
            int[] outside = {-1, size, size + 1, 150, LEAST, MOST};
            for (int i : outside) {
                due.is("put at " + i + " of " + size, x.put(1, 2, i, 1), -12);
                due.is("get at " + i + " of " + size, x.get(1, 2, i), LEAST);
            }
            due.is("it tells", x.count(6), 2);
            if (size > 0) {
                due.is("the first", x.put(1, 2, 0, 1), 1);
                due.is("the last", x.put(1, 2, size - 1, 1), 1);
            }
        }
    }

    private static void findingsInOrder() {
        due.sentence("Promise 4: NULL; CAST; INDEX, the first that fits");
        PigLine x = new PigLine();
        due.is("NULL ahead of INDEX", x.put(0, 0, -1, 0), -11);
        x.reel(0, 1, 2);
        due.is("CAST ahead of INDEX", x.put(0, 0, 2, 0), -13);
        due.is("INDEX", x.put(0, 1, 2, 0), -12);
        due.is("BAD ahead of INDEX", x.put(0, 3, 2, 0), -2);
    }

    private static void getRefusals() {
        due.sentence("Promise 5: BAD: the least int; so are NULL, CAST, INDEX (count() 6 tells)");
        PigLine x = new PigLine();
        for (int r : NO_REEL) {
            due.is("reel " + r, x.get(r, 0, 0), LEAST);
        }
        for (int form : NO_FORM) {
            due.is("form " + form, x.get(0, form, 0), LEAST);
        }
        due.is("BAD is no finding", x.count(6), 0);
        due.is("NULL ahead of INDEX", x.get(0, 0, -1), LEAST);
        due.is("NULL tells", x.count(6), 1);
        x.reel(0, 1, 2);
        due.is("CAST ahead of INDEX", x.get(0, 2, 2), LEAST);
        due.is("CAST tells", x.count(6), 3);
        due.is("INDEX", x.get(0, 1, 2), LEAST);
        due.is("INDEX tells", x.count(6), 2);
        due.is("BAD", x.get(0, 3, 0), LEAST);
        due.is("BAD leaves the finding", x.count(6), 2);
    }

    private static void getOfTheLeastInt() {
        due.sentence("Promise 5: item i of it, be it the least int");
        PigLine x = new PigLine();
        Lines.fill(x, 0, 2, LEAST);
        due.is("get", x.get(0, 2, 0), LEAST);
        due.is("that is no finding", x.count(6), 0);
    }

    private static void items(PigLine x, int r, int form, int... items) {
        for (int i = 0; i < items.length; i++) {
            due.is("reel " + r + " item " + i, x.get(r, form, i), items[i]);
        }
    }

    private static void copyAsTheyWere() {
        due.sentence("Promise 6: to REEL q (perhaps r, as they were)");
        for (int form = 0; form <= 2; form++) {
            PigLine x = new PigLine();
            Lines.fill(x, 0, form, 1, 2, 3, 4, 5);
            due.is("one on", x.copy(0, 0, 0, 1, 4), 1);
            items(x, 0, form, 1, 1, 2, 3, 4);
            Lines.fill(x, 0, form, 1, 2, 3, 4, 5);
            due.is("one back", x.copy(0, 1, 0, 0, 4), 1);
            items(x, 0, form, 2, 3, 4, 5, 5);
            due.is("onto itself", x.copy(0, 0, 0, 0, 5), 1);
            items(x, 0, form, 2, 3, 4, 5, 5);
            Lines.fill(x, 1, form, 9, 9, 9);
            due.is("another one", x.copy(0, 1, 1, 1, 2), 1);
            items(x, 1, form, 9, 3, 4);
            items(x, 0, form, 2, 3, 4, 5, 5);
        }
    }

    private static void copyOfNone() {
        due.sentence("Promise 6: n items, be there none");
        PigLine x = new PigLine();
        Lines.fill(x, 0, 0, 1, 2);
        Lines.fill(x, 1, 0, 3, 4, 5);
        due.is("from the beginning", x.copy(0, 0, 1, 0, 0), 1);
        due.is("from the end to the end", x.copy(0, 2, 1, 3, 0), 1);
        items(x, 1, 0, 3, 4, 5);
        due.is("from behind the end", x.copy(0, 3, 1, 0, 0), -12);
        due.is("to behind the end", x.copy(0, 0, 1, 4, 0), -12);
        x.reel(4, 0, 0);
        x.reel(5, 0, 0);
        due.is("between two without items", x.copy(4, 0, 5, 0, 0), 1);
        due.is("one of none", x.copy(4, 0, 5, 0, 1), -12);
        due.is("no finding but that", x.count(6), 2);
    }

    private static void copyOfAll() {
        due.sentence("Promise 6: n items, be it all 150");
        PigLine x = new PigLine();
        Lines.fillAlike(x, 3, 1, 150, -4);
        x.reel(7, 1, 150);
        due.is("copy", x.copy(3, 0, 7, 0, 150), 1);
        for (int i = 0; i < 150; i++) {
            due.is("item " + i, x.get(7, 1, i), -4);
        }
        due.is("151", x.copy(3, 0, 7, 0, 151), -12);
    }

    private static void copyBad() {
        due.sentence("Promise 6: BAD: the REELS");
        PigLine x = new PigLine();
        for (int r : NO_REEL) {
            due.is("from " + r, x.copy(r, 0, 0, 0, 0), -2);
            due.is("to " + r, x.copy(0, 0, r, 0, 0), -2);
            due.is("ahead of INDEX", x.copy(r, -1, r, -1, -1), -2);
        }
        due.is("no finding", x.count(6), 0);
    }

    private static void copyNull() {
        due.sentence("Promise 6: NULL: r, q");
        PigLine x = new PigLine();
        x.reel(0, 0, 2);
        due.is("q", x.copy(0, 0, 1, 0, 1), -11);
        due.is("r", x.copy(1, 0, 0, 0, 1), -11);
        due.is("both", x.copy(1, 0, 2, 0, 0), -11);
        due.is("r is q", x.copy(1, 0, 1, 0, 0), -11);
        due.is("q, of none", x.copy(0, 0, 1, 0, 0), -11);
        due.is("it tells", x.count(6), 1);
    }

    private static void copyStore() {
        due.sentence("Terms: 4 STORE: unlike FORMS");
        for (int form = 0; form <= 2; form++) {
            for (int other = 0; other <= 2; other++) {
                PigLine x = new PigLine();
                Lines.fill(x, 0, form, 6);
                x.reel(1, other, 1);
                due.is(form + " to " + other, x.copy(0, 0, 1, 0, 1), form == other ? 1 : -14);
                due.is("none of them", x.copy(0, 0, 1, 0, 0), form == other ? 1 : -14);
                due.is("count 6", x.count(6), form == other ? 0 : 4);
                due.is("the item", x.get(1, other, 0), form == other ? 6 : 0);
            }
        }
    }

    private static PigLine fourAndThree() {
        PigLine x = new PigLine();
        Lines.fill(x, 0, 1, 1, 2, 3, 4);
        Lines.fill(x, 1, 1, 5, 6, 7);
        return x;
    }

    private static void outside(int i, int j, int n) {
        PigLine x = fourAndThree();
        due.is(n + " from " + i + " to " + j, x.copy(0, i, 1, j, n), -12);
        due.is("it tells", x.count(6), 2);
        items(x, 1, 1, 5, 6, 7);
    }

    private static void copyBelow() {
        due.sentence("Promise 6: INDEX: below 0");
        int[] below = {-1, -2, LEAST};
        for (int b : below) {
            outside(b, 0, 1);
            outside(0, b, 1);
            outside(0, 0, b);
            outside(b, 0, 0);
            outside(0, b, 0);
            outside(1, 1, b);
            outside(b, b, b);
        }
    }

    private static void copyNotSoMany() {
        due.sentence("Promise 6: INDEX: not so many");
        outside(0, 0, 4);
        outside(2, 0, 3);
        outside(4, 0, 1);
        outside(5, 0, 0);
        outside(0, 1, 3);
        outside(0, 3, 1);
        outside(0, 4, 0);
        PigLine x = fourAndThree();
        due.is("to the ends of both", x.copy(0, 2, 1, 1, 2), 1);
        items(x, 1, 1, 5, 3, 4);
        due.is("all of the lesser one", x.copy(0, 1, 1, 0, 3), 1);
        items(x, 1, 1, 2, 3, 4);
        due.is("back to the end", x.copy(1, 0, 0, 1, 3), 1);
        due.is("no finding", x.count(6), 0);
    }

    private static void copyWrapsNowhere() {
        due.sentence("Promise 6: INDEX, where sums would wrap around");
        int[] great = {MOST, MOST - 1, MOST - 3, 1 << 30, 1 << 31};
        for (int g : great) {
            outside(g, 0, 1);
            outside(0, g, 1);
            outside(1, 1, g);
            outside(g, 0, g);
            outside(0, g, g);
            outside(g, g, g);
        }
        outside(1, 0, MOST);
        outside(0, 2, MOST - 1);
        outside(3, 0, LEAST);
    }

    private static void copyFindingsInOrder() {
        due.sentence("Promise 6: NULL; STORE; INDEX, the first that fits");
        PigLine x = new PigLine();
        x.reel(0, 0, 1);
        due.is("NULL ahead of INDEX", x.copy(0, -1, 1, -1, -1), -11);
        x.reel(1, 1, 1);
        due.is("STORE ahead of INDEX", x.copy(0, -1, 1, -1, -1), -14);
        x.reel(1, 0, 1);
        due.is("INDEX", x.copy(0, -1, 1, -1, -1), -12);
    }
}
