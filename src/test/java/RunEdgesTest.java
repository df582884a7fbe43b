/** The boundary sentences of the document on RUNS (promises 7 to 9), each with objects of its own. */
public final class RunEdgesTest {
    private static final int LEAST = Lines.LEAST, MOST = Lines.MOST;
    private static final int BYTES = Lines.BYTES, SHORTS = Lines.SHORTS, INTS = Lines.INTS;
    private static final int[][] ORDERS = {{0, 1, 2}, {0, 2, 1}, {1, 0, 2}, {1, 2, 0}, {2, 0, 1}, {2, 1, 0}};
    private static final Due due = new Due();

    public static void main(String[] args) {
        twoRuns();
        reelsOfARun();
        ticks();
        ticksOfNone();
        feelersAreNoWheels();
        readingOfALostWheel();
        readingBehindTheLastItem();
        readingBelow();
        readingAbove();
        middleOfThree();
        greaterOfTwo();
        oneAlone();
        blindTicks();
        blindAtTheFirst();
        waysTogether();
        welds();
        weldsOfForms();
        weldsWithoutAnItem();
        weldsBehindTheTicks();
        jointsFromWelds();
        jointsOfNoLength();
        sixtyAtMost();
        runRefusals();
        wayRefusals();
        feltRefusals();
        due.end();
    }

    private static void ways(PigLine x, int r, int... ways) {
        due.is("ticks", x.run(r, 0), ways.length);
        for (int t = 0; t < ways.length; t++) {
            due.is("way of tick " + t, x.way(r, t), ways[t]);
        }
        due.is("the last way", x.run(r, 2), ways.length == 0 ? 0 : ways[ways.length - 1]);
    }

    /** The STEP of one TICK at which the WHEELS, in any order, have these items. */
    private static void step(String what, int step, int... items) {
        for (int[] order : ORDERS) {
            for (int r = 0; r < 2; r++) {
                PigLine x = new PigLine();
                for (int w = 0; w < items.length; w++) {
                    Lines.fill(x, 4 * r + order[w], INTS, items[w]);
                }
                due.is(what, x.way(r, 0), step);
                due.is(what + ": not blind", x.run(r, 1), 0);
            }
        }
    }

    private static void twoRuns() {
        due.sentence("Terms: RUN r (0, 1)");
        PigLine x = new PigLine();
        Lines.feel(x, 0, 5);
        Lines.feel(x, 1, 6);
        int[] none = {-1, 2, LEAST, MOST};
        for (int r : none) {
            for (int what = 0; what <= 3; what++) {
                due.is("run " + r, x.run(r, what), -2);
            }
            due.is("way " + r, x.way(r, 0), -2);
            due.is("felt begins " + r, x.felt(r, 0, 0), -2);
            due.is("felt length " + r, x.felt(r, 0, 1), -2);
        }
        due.is("run 0", x.run(0, 2), 5);
        due.is("run 1", x.run(1, 2), 6);
    }

    private static void reelsOfARun() {
        due.sentence("Terms: WHEELS: REELS 4 r, 4 r + 1, 4 r + 2, and FEELERS: REEL 4 r + 3");
        for (int reel = 0; reel < 8; reel++) {
            PigLine x = new PigLine();
            Lines.fill(x, reel, INTS, 8);
            for (int r = 0; r < 2; r++) {
                boolean isWheel = reel / 4 == r && reel % 4 < 3;
                due.is("reel " + reel + ": ticks of " + r, x.run(r, 0), isWheel ? 1 : 0);
                due.is("reel " + reel + ": way of " + r, x.run(r, 2), isWheel ? 8 : 0);
                due.is("reel " + reel + ": no weld of " + r, x.run(r, 3), 0);
            }
        }
        for (int r = 0; r < 2; r++) {
            for (int feelers = 0; feelers < 8; feelers++) {
                PigLine x = new PigLine();
                int wheel = feelers == 4 * r ? 4 * r + 1 : 4 * r;
                Lines.fill(x, wheel, INTS, 8);
                Lines.fill(x, feelers, INTS, 8);
                due.is("welds of " + r + " by reel " + feelers, x.run(r, 3), feelers == 4 * r + 3 ? 1 : 0);
            }
        }
    }

    private static void ticks() {
        due.sentence("Terms: as many TICKS as the longest of its WHEELS has items");
        for (int r = 0; r < 2; r++) {
            for (int[] order : ORDERS) {
                PigLine x = new PigLine();
                x.reel(4 * r + order[0], INTS, 2);
                due.is("one wheel", x.run(r, 0), 2);
                x.reel(4 * r + order[1], SHORTS, 150);
                due.is("a longer one", x.run(r, 0), 150);
                x.reel(4 * r + order[2], BYTES, 149);
                due.is("a lesser one", x.run(r, 0), 150);
                due.is("the last way of 150", x.way(r, 149), 0);
                due.is("none behind it", x.way(r, 150), -2);
                x.lose(4 * r + order[1]);
                due.is("the longest is LOST", x.run(r, 0), 149);
                x.reel(4 * r + order[2], BYTES, 1);
                due.is("the longest is shorter", x.run(r, 0), 2);
            }
        }
    }

    private static void ticksOfNone() {
        due.sentence("Terms: TICKS (0 if all are LOST)");
        for (int r = 0; r < 2; r++) {
            PigLine x = new PigLine();
            for (int what = 0; what <= 3; what++) {
                due.is("run " + what + " of a new object", x.run(r, what), 0);
            }
            due.is("no way", x.way(r, 0), -2);
            due.is("no joint", x.felt(r, 0, 0), -2);
            for (int w = 0; w < 3; w++) {
                Lines.fill(x, 4 * r + w, INTS, 3, 4);
            }
            Lines.fill(x, 4 * r + 3, INTS, 1, 1);
            for (int w = 0; w < 3; w++) {
                x.lose(4 * r + w);
            }
            for (int what = 0; what <= 3; what++) {
                due.is("run " + what + " of one that lost all wheels", x.run(r, what), 0);
            }
            x.reel(4 * r, INTS, 0);
            due.is("a wheel without items", x.run(r, 0), 0);
            due.is("no way of it", x.way(r, 0), -2);
        }
    }

    private static void feelersAreNoWheels() {
        due.sentence("Terms: TICKS by WHEELS, not by FEELERS");
        PigLine x = new PigLine();
        x.reel(3, INTS, 150);
        due.is("feelers alone", x.run(0, 0), 0);
        x.reel(0, INTS, 1);
        due.is("a wheel of one", x.run(0, 0), 1);
    }

    private static void readingOfALostWheel() {
        due.sentence("Terms: a reading is NONE if the WHEEL is LOST");
        for (int[] order : ORDERS) {
            PigLine x = new PigLine();
            Lines.fill(x, order[0], INTS, 3);
            Lines.fill(x, order[1], INTS, 9);
            Lines.fill(x, order[2], INTS, 5);
            due.is("three", x.way(0, 0), 5);
            x.lose(order[2]);
            due.is("two", x.way(0, 0), 9);
            x.lose(order[1]);
            due.is("one", x.way(0, 0), 3);
        }
    }

    private static void readingBehindTheLastItem() {
        due.sentence("Terms: a reading is NONE if the WHEEL has no such item");
        for (int[] order : ORDERS) {
            PigLine x = new PigLine();
            Lines.fill(x, order[0], INTS, 1, 2, 3, 4);
            Lines.fill(x, order[1], INTS, 20, 20, 20);
            Lines.fill(x, order[2], INTS, 5, 5);
            ways(x, 0, 5, 10, 30, 34);
            // What a longer row had there before must not be read.
            x.reel(order[1], INTS, 1);
            ways(x, 0, 1, 6, 9, 13);
        }
    }

    private static void readingBelow() {
        due.sentence("Terms: a reading is NONE if it is below 0");
        step("0 is a reading", 0, 0);
        step("0 is one of three", 4, 0, 4, 9);
        int[] below = {-1, -2, -30000, LEAST};
        for (int b : below) {
            step("the greater of the two others", 9, b, 4, 9);
            step("the third alone", 4, b, b, 4);
        }
        PigLine x = new PigLine();
        Lines.fill(x, 0, INTS, -1, 0);
        due.is("-1 is blind, 0 is not", x.run(0, 1), 1);
    }

    private static void readingAbove() {
        due.sentence("Terms: a reading is NONE if it is above 30000");
        step("30000 is a reading", 30000, 30000);
        step("30000 is one of three", 9, 30000, 4, 9);
        int[] above = {30001, 32767, 65536, MOST};
        for (int a : above) {
            step("the greater of the two others", 9, a, 4, 9);
            step("the third alone", 4, a, a, 4);
        }
        PigLine x = new PigLine();
        Lines.fill(x, 1, SHORTS, 30000, 30001);
        ways(x, 0, 30000, 60000);
        due.is("30001 is blind, 30000 is not", x.run(0, 1), 1);
    }

    private static void middleOfThree() {
        due.sentence("Terms: the STEP: of three readings the middle one");
        step("all unlike", 7, 5, 7, 20);
        step("two like the least", 5, 5, 5, 20);
        step("two like the greatest", 20, 5, 20, 20);
        step("all alike", 6, 6, 6, 6);
        step("the edges", 30000, 0, 30000, 30000);
    }

    private static void greaterOfTwo() {
        due.sentence("Terms: the STEP: of two the greater one");
        step("two", 7, 5, 7);
        step("two alike", 7, 7, 7);
        step("the edges", 30000, 0, 30000);
        step("the third is NONE", 7, 5, 7, -1);
    }

    private static void oneAlone() {
        due.sentence("Terms: the STEP: of one it");
        step("one wheel", 7, 7);
        step("two are NONE", 7, 7, -1, 30001);
    }

    private static void blindTicks() {
        due.sentence("Terms: of none (a BLIND TICK) the STEP of the TICK ahead");
        PigLine x = new PigLine();
        Lines.fill(x, 0, INTS, 4, -1, -1, 9, -1, 0, -1, 2);
        ways(x, 0, 4, 8, 12, 21, 30, 30, 30, 32);
        due.is("blind ones", x.run(0, 1), 4);
        x = new PigLine();
        Lines.fill(x, 4, INTS, 3, 30001, -1);
        Lines.fill(x, 5, INTS, 8, -1, 30001);
        Lines.fill(x, 6, INTS, 5);
        ways(x, 1, 5, 10, 15);
        due.is("blind in all three", x.run(1, 1), 2);
    }

    private static void blindAtTheFirst() {
        due.sentence("Terms: the STEP of a BLIND TICK (0 at the first)");
        PigLine x = new PigLine();
        Lines.fill(x, 2, INTS, -1, -1, 6, -1);
        ways(x, 0, 0, 0, 6, 12);
        due.is("blind ones", x.run(0, 1), 3);
        due.is("of the other run", x.run(1, 1), 0);
        Lines.fillAlike(x, 4, BYTES, 150, -1);
        due.is("all 150 are blind", x.run(1, 1), 150);
        due.is("no way at all", x.run(1, 2), 0);
    }

    private static void waysTogether() {
        due.sentence("Terms: the WAY of a TICK: all STEPS up to its own together");
        PigLine x = new PigLine();
        Lines.fillAlike(x, 6, SHORTS, 150, 30000);
        for (int t = 0; t < 150; t++) {
            due.is("way " + t, x.way(1, t), 30000 * (t + 1));
        }
        due.is("the last", x.run(1, 2), 4500000);
    }

    private static void welds() {
        due.sentence("Terms: there is a WELD, if FEELERS have an item for it that is not 0");
        int[] items = {1, -1, 2, LEAST, MOST, 256, 65536};
        for (int item : items) {
            PigLine x = new PigLine();
            Lines.fill(x, 0, INTS, 5, 5, 5);
            Lines.fill(x, 3, INTS, 0, item, 0);
            due.is("a weld by " + item, x.run(0, 3), 1);
            due.is("at its tick", x.felt(0, 0, 1), 10);
        }
    }

    private static void weldsOfForms() {
        due.sentence("Terms: FEELERS may be of any FORM");
        int[] lowestBitsAreNone = {256, 65536, 0};
        for (int form = 0; form <= 2; form++) {
            PigLine x = new PigLine();
            Lines.fill(x, 0, INTS, 5);
            Lines.fill(x, 3, form, lowestBitsAreNone[form]);
            due.is("the lowest bits are 0", x.run(0, 3), 0);
            Lines.fill(x, 3, form, 255);
            due.is("they are not", x.run(0, 3), 1);
        }
    }

    private static void weldsWithoutAnItem() {
        due.sentence("Terms: no WELD where FEELERS have no item");
        PigLine x = new PigLine();
        Lines.fill(x, 0, INTS, 5, 5, 5);
        due.is("feelers are LOST", x.run(0, 3), 0);
        x.reel(3, BYTES, 0);
        due.is("feelers without items", x.run(0, 3), 0);
        Lines.fill(x, 3, BYTES, 1, 1, 1);
        due.is("three", x.run(0, 3), 3);
        Lines.fill(x, 3, BYTES, 1);
        due.is("the others are gone", x.run(0, 3), 1);
        x.lose(3);
        due.is("all are gone", x.run(0, 3), 0);
    }

    private static void weldsBehindTheTicks() {
        due.sentence("Terms: a WELD is at a TICK");
        PigLine x = new PigLine();
        Lines.fill(x, 0, INTS, 5, 5);
        Lines.fill(x, 3, BYTES, 0, 0, 1, 1);
        due.is("items behind the last tick", x.run(0, 3), 0);
        x.put(3, BYTES, 1, 1);
        due.is("one at the last tick", x.run(0, 3), 1);
    }

    private static void joint(PigLine x, int j, int begins, int length) {
        due.is("joint " + j + " begins", x.felt(0, j, 0), begins);
        due.is("joint " + j + " length", x.felt(0, j, 1), length);
    }

    private static void jointsFromWelds() {
        due.sentence("Terms: FELT JOINTS: from one WELD (the first from WAY 0) to the next one");
        PigLine x = new PigLine();
        Lines.fill(x, 0, INTS, 4, 5, 6, 7, 8);
        Lines.fill(x, 3, BYTES, 0, 1, 0, 1, 0);
        due.is("two", x.run(0, 3), 2);
        joint(x, 0, 0, 9);
        joint(x, 1, 9, 13);
        due.is("none behind the last weld", x.felt(0, 2, 0), -2);
        Lines.fill(x, 3, BYTES, 1, 0, 0, 0, 1);
        due.is("two", x.run(0, 3), 2);
        joint(x, 0, 0, 4);
        joint(x, 1, 4, 26);
        Lines.fill(x, 3, BYTES, 0, 0, 0, 0, 0);
        due.is("without a weld none", x.run(0, 3), 0);
    }

    private static void jointsOfNoLength() {
        due.sentence("Terms: their LENGTHS are the WAYS' differences, be they 0");
        PigLine x = new PigLine();
        Lines.feel(x, 0, 0, 0, 7, 0);
        due.is("four", x.run(0, 3), 4);
        joint(x, 0, 0, 0);
        joint(x, 1, 0, 0);
        joint(x, 2, 0, 7);
        joint(x, 3, 7, 0);
        x = new PigLine();
        Lines.fillAlike(x, 0, SHORTS, 150, 30000);
        x.reel(3, BYTES, 150);
        x.put(3, BYTES, 149, 1);
        joint(x, 0, 0, 4500000);
    }

    private static void sixtyAtMost() {
        due.sentence("Terms: FELT JOINTS: 60 at most count");
        int[][] welds = {{59, 59}, {60, 60}, {61, 60}, {150, 60}};
        for (int[] row : welds) {
            for (int r = 0; r < 2; r++) {
                PigLine x = new PigLine();
                Lines.fillAlike(x, 4 * r + 2, BYTES, 150, 3);
                Lines.fillAlike(x, 4 * r + 3, BYTES, row[0], 1);
                due.is(row[0] + " welds", x.run(r, 3), row[1]);
                due.is("the last begins", x.felt(r, row[1] - 1, 0), 3 * (row[1] - 1));
                due.is("the last length", x.felt(r, row[1] - 1, 1), 3);
                due.is("none behind it", x.felt(r, row[1], 0), -2);
                due.is("all count in the match", x.match(r), 100 * row[1]);
                due.is("all ticks count", x.run(r, 2), 450);
            }
        }
    }

    private static PigLine threeJoints() {
        PigLine x = new PigLine();
        Lines.feel(x, 0, 4, 5, 6);
        return x;
    }

    private static void runRefusals() {
        due.sentence("Promise 7: BAD");
        PigLine x = threeJoints();
        int[] noWhat = {-1, 4, LEAST, MOST};
        for (int what : noWhat) {
            due.is("run what " + what, x.run(0, what), -2);
        }
        due.is("no finding", x.count(6), 0);
    }

    private static void wayRefusals() {
        due.sentence("Promise 8: BAD");
        PigLine x = threeJoints();
        int[] noTick = {-1, 3, 150, LEAST, MOST};
        for (int tick : noTick) {
            due.is("way " + tick, x.way(0, tick), -2);
        }
        due.is("the first", x.way(0, 0), 4);
        due.is("the last", x.way(0, 2), 15);
        due.is("no finding", x.count(6), 0);
    }

    private static void feltRefusals() {
        due.sentence("Promise 9: BAD");
        PigLine x = threeJoints();
        int[] noJoint = {-1, 3, 60, LEAST, MOST};
        for (int j : noJoint) {
            due.is("felt " + j + " begins", x.felt(0, j, 0), -2);
            due.is("felt " + j + " length", x.felt(0, j, 1), -2);
        }
        int[] noPart = {-1, 2, LEAST, MOST};
        for (int what : noPart) {
            due.is("felt what " + what, x.felt(0, 0, what), -2);
        }
        due.is("the last begins", x.felt(0, 2, 0), 9);
        due.is("the last length", x.felt(0, 2, 1), 6);
        due.is("no finding", x.count(6), 0);
    }
}
