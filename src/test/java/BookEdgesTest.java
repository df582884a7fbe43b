/** The boundary sentences of the document on THE BOOK (promises 10 to 14), each with objects of its own. */
public final class BookEdgesTest {
    private static final int LEAST = Lines.LEAST, MOST = Lines.MOST;
    private static final int[] NO_RUN = {-1, 2, LEAST, MOST};
    private static final Due due = new Due();

    public static void main(String[] args) {
        fortyJoints();
        lengths();
        badAheadOfFull();
        wipe();
        wipeLeavesTheRest();
        costsBounds();
        costsAtFirst();
        nothingOnEitherSide();
        differenceOfLengths();
        inOrder();
        leastCost();
        pairAhead();
        bookAheadOfFelt();
        fromTheEnd();
        whereTheyPartFirst();
        costsOfNothing();
        greatest();
        beyondSixty();
        matchRefusals();
        pairedRefusals();
        pairedNone();
        due.end();
    }

    private static PigLine line(int[] book, int... felt) {
        PigLine x = Lines.book(book);
        Lines.feel(x, 0, felt);
        return x;
    }

    private static int[] of(int... lengths) {
        return lengths;
    }

    private static void pairs(String what, PigLine x, int r, int cost, int... partners) {
        due.is(what + ": cost", x.match(r), cost);
        for (int j = 0; j < partners.length; j++) {
            due.is(what + ": joint " + j, x.paired(r, j), partners[j]);
        }
    }

    private static void fortyJoints() {
        due.sentence("Terms: THE BOOK has up to 40 JOINTS; promise 10: its number; FULL");
        PigLine x = new PigLine();
        for (int round = 0; round < 2; round++) {
            for (int j = 0; j < 40; j++) {
                due.is("joint", x.joint(1 + j), j);
            }
            due.is("the 41st", x.joint(1), -3);
            due.is("and again", x.joint(100000), -3);
            due.is("40", x.count(0), 40);
            due.is("the last of them", x.paired(0, 39), -1);
            due.is("there is no 41st", x.paired(0, 40), -2);
            due.is("wipe", x.wipe(), 40);
        }
        due.is("FULL is no finding", x.count(6), 0);
    }

    private static void lengths() {
        due.sentence("Terms: JOINTS with LENGTHS (1 to 100000); promise 10: BAD");
        PigLine x = new PigLine();
        int[] bad = {0, -1, 100001, LEAST, MOST};
        for (int length : bad) {
            due.is("joint " + length, x.joint(length), -2);
            due.is("none came", x.count(0), 0);
        }
        due.is("1", x.joint(1), 0);
        due.is("100000", x.joint(100000), 1);
        x.costs(1000000, 1000000);
        Lines.feel(x, 0, 0, 0);
        due.is("their lengths are kept", x.match(0), 100001);
    }

    private static void badAheadOfFull() {
        due.sentence("Refusals, the first that fits: BAD ahead of FULL (joint)");
        PigLine x = new PigLine();
        for (int j = 0; j < 40; j++) {
            x.joint(5);
        }
        due.is("0", x.joint(0), -2);
        due.is("100001", x.joint(100001), -2);
        due.is("5", x.joint(5), -3);
    }

    private static void wipe() {
        due.sentence("Promise 11: THE BOOK is empty: how many JOINTS it had");
        int[] sizes = {0, 1, 39, 40};
        for (int size : sizes) {
            PigLine x = new PigLine();
            for (int j = 0; j < size; j++) {
                x.joint(5);
            }
            due.is("wipe", x.wipe(), size);
            due.is("empty", x.count(0), 0);
            due.is("no joint", x.paired(0, 0), -2);
            due.is("nothing to miss", x.match(0), 0);
            due.is("again", x.wipe(), 0);
        }
    }

    private static void wipeLeavesTheRest() {
        due.sentence("Promise 11: it is THE BOOK alone that is empty");
        PigLine x = line(of(7), 9);
        x.costs(3, 4);
        x.mark(0, 1, 1, 1, 1);
        x.work(1, 1);
        x.wipe();
        due.is("EXTRA stays", x.match(0), 4);
        due.is("marks stay", x.count(1), 1);
        due.is("works stay", x.count(3), 1);
        due.is("what is felt stays", x.run(0, 3), 1);
        due.is("numbers begin at 0", x.joint(8), 0);
        due.is("the new length counts", x.match(0), 1);
    }

    private static void costsBounds() {
        due.sentence("Promise 12: MISSED and EXTRA (0 to 1000000): 1. BAD");
        int[] bad = {-1, 1000001, LEAST, MOST};
        for (int b : bad) {
            PigLine x = line(of(100000), 0);
            due.is("costs " + b + ", 5", x.costs(b, 5), -2);
            due.is("costs 5, " + b, x.costs(5, b), -2);
            due.is("costs " + b + ", " + b, x.costs(b, b), -2);
            due.is("both stay", x.match(0), 200);
        }
        PigLine x = line(of(100000), 0);
        due.is("both least", x.costs(0, 0), 1);
        due.is("nothing", x.match(0), 0);
        due.is("MISSED greatest", x.costs(1000000, 0), 1);
        due.is("a pair is less", x.match(0), 100000);
        x.lose(0);
        due.is("MISSED", x.match(0), 1000000);
        due.is("EXTRA greatest", x.costs(0, 1000000), 1);
        due.is("nothing missed", x.match(0), 0);
        x.wipe();
        Lines.feel(x, 0, 5);
        due.is("EXTRA", x.match(0), 1000000);
    }

    private static void costsAtFirst() {
        due.sentence("Terms: MISSED (100 at first), EXTRA (100 at first)");
        due.is("MISSED", Lines.book(5).match(0), 100);
        due.is("EXTRA", line(of(), 5).match(0), 100);
    }

    private static void nothingOnEitherSide() {
        due.sentence("Terms: a MATCH where one side is empty");
        due.is("both empty", new PigLine().match(0), 0);
        due.is("both empty, RUN 1", new PigLine().match(1), 0);
        PigLine x = line(of(), 5, 6, 7);
        x.costs(1, 20);
        due.is("an empty book", x.match(0), 60);
        x = Lines.book(5, 6, 7);
        x.costs(1, 20);
        pairs("nothing felt", x, 0, 3, -1, -1, -1);
        pairs("nothing felt, RUN 1", x, 1, 3, -1, -1, -1);
    }

    private static void differenceOfLengths() {
        due.sentence("Terms: COST: of each pair the difference of LENGTHS");
        pairs("the book's is greater", line(of(50), 20), 0, 30, 0);
        pairs("the felt one is greater", line(of(20), 50), 0, 30, 0);
        pairs("alike", line(of(20), 20), 0, 0, 0);
        pairs("a felt one of no length", line(of(20), 0), 0, 20, 0);
    }

    private static void inOrder() {
        due.sentence("Terms: in order on both sides");
        PigLine x = line(of(1000, 5000), 5000, 1000);
        x.costs(100, 100);
        pairs("crossed", x, 0, 200, 1, -1);
        x = line(of(1000, 5000, 9000), 9000, 5000, 1000);
        due.is("one pair alone", x.match(0), 400);
    }

    private static void leastCost() {
        due.sentence("Terms: THE MATCH is the one with the least COST");
        pairs("199 are less than 200", line(of(1000), 1199), 0, 199, 0);
        pairs("201 are more than 200", line(of(1000), 1201), 0, 200, -1);
        pairs("one is skipped in the middle", line(of(10, 20, 30), 10, 9000, 20, 30), 0, 100, 0, 2, 3);
        pairs("one is missed in the middle", line(of(10, 9000, 30), 10, 30), 0, 100, 0, -1, 1);
        // The near pair first would cost 0 and 200; the whole is least with 60 and 60.
        PigLine x = line(of(1000, 1060), 1060, 1120);
        pairs("the whole counts", x, 0, 120, 0, 1);
        x = line(of(300), 9000, 300);
        Lines.feel(x, 1, 290, 9000);
        pairs("RUN 0", x, 0, 100, 1);
        pairs("RUN 1", x, 1, 110, 0);
    }

    private static void pairAhead() {
        due.sentence("Terms: of like ones a pair is taken ahead of one of THE BOOK's left out");
        pairs("200 either way", line(of(1000), 1200), 0, 200, 0);
        pairs("200 either way, the other side", line(of(1200), 1000), 0, 200, 0);
        PigLine x = line(of(1000, 1000), 1000);
        pairs("the last is paired, not left out", x, 0, 100, -1, 0);
        x = line(of(1000), 1000, 1000);
        pairs("the last felt one is paired, not left out", x, 0, 100, 1);
    }

    private static void bookAheadOfFelt() {
        due.sentence("Terms: of like ones one of THE BOOK's left out ahead of a FELT one left out");
        // Left out: the book's last and the felt first, or the book's first and the felt last.
        PigLine x = line(of(1000, 5000), 5000, 1000);
        pairs("the book's last is left out", x, 0, 200, 1, -1);
        x = line(of(5000, 1000), 1000, 5000);
        pairs("the same turned round", x, 0, 200, 1, -1);
    }

    private static void fromTheEnd() {
        due.sentence("Terms: of like ones, gone through from the end");
        pairs("the last of four felt", line(of(300), 300, 300, 300, 300), 0, 300, 3);
        pairs("the last of four of the book", line(of(300, 300, 300, 300), 300), 0, 300, -1, -1, -1, 0);
        pairs("the last two", line(of(300, 300), 300, 300, 300), 0, 100, 1, 2);
        pairs("the last two of the book", line(of(300, 300, 300), 300, 300), 0, 100, -1, 0, 1);
    }

    private static void whereTheyPartFirst() {
        due.sentence("Terms: of like ones, at the first place where they part");
        // Costs 150 with the last pair (50, and one missed), and 150 with the first (50, and one missed).
        pairs("the last pair decides", line(of(1050, 950), 1000), 0, 150, -1, 0);
        // The end is the same in all; ahead of it two ways part.
        pairs("behind a common end", line(of(300, 300, 9000), 300, 9000), 0, 100, -1, 0, 1);
        // All of the book's that can be are left out ahead of the felt last: the first 300 is paired.
        pairs("behind a left out end", line(of(300, 300, 5000), 300, 9000), 0, 300, 0, -1, -1);
    }

    private static void costsOfNothing() {
        due.sentence("Terms: of like ones where leaving out costs nothing");
        PigLine x = line(of(10, 20), 20, 10);
        x.costs(0, 0);
        pairs("a pair of like lengths", x, 0, 0, 1, -1);
        x = line(of(10, 20), 11, 21);
        x.costs(0, 0);
        pairs("no pair is for nothing", x, 0, 0, -1, -1);
        x = line(of(10, 20), 10, 20);
        x.costs(0, 0);
        pairs("both for nothing", x, 0, 0, 0, 1);
        x.costs(0, 1000000);
        pairs("the felt ones may not be left out", x, 0, 0, 0, 1);
    }

    private static void greatest() {
        due.sentence("Terms: the greatest COST, of 40 JOINTS and 60 FELT ones");
        PigLine x = new PigLine();
        for (int j = 0; j < 40; j++) {
            x.joint(100000);
        }
        Lines.fillAlike(x, 0, 0, 150, 0);
        Lines.fillAlike(x, 3, 0, 150, 1);
        x.costs(1000000, 1000000);
        due.is("40 pairs, 20 left out", x.match(0), 24000000);
        for (int j = 0; j < 40; j++) {
            due.is("joint " + j, x.paired(0, j), j + 20);
        }
        x.lose(3);
        due.is("40 missed", x.match(0), 40000000);
        Lines.fillAlike(x, 3, 0, 150, 1);
        x.wipe();
        due.is("60 extra", x.match(0), 60000000);
        x = Lines.book(1);
        Lines.fillAlike(x, 0, 1, 150, 30000);
        x.reel(3, 0, 150);
        x.put(3, 0, 149, 1);
        x.costs(1000000, 1000000);
        pairs("4499999 are more than both", x, 0, 2000000, -1);
    }

    private static void beyondSixty() {
        due.sentence("Terms: 60 FELT JOINTS at most count in THE MATCH");
        PigLine x = Lines.book(77);
        x.reel(0, 0, 62);
        Lines.fillAlike(x, 3, 0, 62, 1);
        x.put(0, 0, 60, 77);
        due.is("the 61st cannot be paired", x.match(0), 77 + 5900);
        due.is("the last of them is", x.paired(0, 0), 59);
        x.put(0, 0, 59, 77);
        due.is("the 60th can", x.match(0), 5900);
        due.is("it is", x.paired(0, 0), 59);
    }

    private static void matchRefusals() {
        due.sentence("Promise 13: BAD");
        PigLine x = line(of(5), 5);
        for (int r : NO_RUN) {
            due.is("match " + r, x.match(r), -2);
        }
        due.is("no finding", x.count(6), 0);
    }

    private static void pairedRefusals() {
        due.sentence("Promise 14: BAD");
        PigLine x = line(of(5, 6), 5, 6);
        for (int r : NO_RUN) {
            due.is("paired " + r, x.paired(r, 0), -2);
        }
        int[] none = {-1, 2, 40, LEAST, MOST};
        for (int j : none) {
            due.is("paired of joint " + j, x.paired(0, j), -2);
        }
        due.is("the last", x.paired(0, 1), 1);
        due.is("of an empty book", new PigLine().paired(0, 0), -2);
        due.is("no finding", x.count(6), 0);
    }

    private static void pairedNone() {
        due.sentence("Promise 14: NONE");
        PigLine x = line(of(5, 9000, 6), 5, 6);
        due.is("the first", x.paired(0, 0), 0);
        due.is("left out", x.paired(0, 1), -1);
        due.is("the last", x.paired(0, 2), 1);
        due.is("of a run that feels nothing", x.paired(1, 0), -1);
    }
}
