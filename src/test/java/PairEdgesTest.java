/** The boundary sentences of the document on PAIRS and GROWTH (promises 21 to 25). */
public final class PairEdgesTest {
    private static final int LEAST = Lines.LEAST, MOST = Lines.MOST;
    private static final Due due = new Due();

    public static void main(String[] args) {
        aloneBounds();
        aloneAtFirst();
        jointWithoutMarks();
        runWithoutFeltJoint();
        pairingRefusals();
        fiveOfRunZero();
        fiveOfRunOne();
        firstByNumbers();
        fromTheBeginnings();
        hoursApart();
        pairOrLeftOut();
        leastCostOfAll();
        lesserNumber();
        firstInWhichTheyPart();
        leftOutComesBehind();
        oneToOne();
        twinInItsJoint();
        twinWithAGreaterNumber();
        twinNone();
        twinRefusals();
        toolBounds();
        toolAtFirst();
        cutToNothing();
        cutToAHundred();
        neverBelowNothing();
        lastEdges();
        lastNone();
        growthBad();
        growthNot();
        due.end();
    }

    /** MARKS of RUN 0 so far from the JOINT's beginning, all at the same hour. */
    private static void first(PigLine x, int... distances) {
        for (int distance : distances) {
            x.mark(0, distance, 0, 0, 0);
        }
    }

    /** MARKS of RUN 1 so far from the JOINT's beginning, all at the same hour. */
    private static void second(PigLine x, int... distances) {
        for (int distance : distances) {
            x.mark(1, 7000 + distance, 0, 0, 0);
        }
    }

    private static void twins(String what, PigLine x, int... twins) {
        for (int m = 0; m < twins.length; m++) {
            due.is(what + ": twin of " + m, x.twin(m), twins[m]);
        }
    }

    private static void aloneBounds() {
        due.sentence("Promise 21: ALONE (0 to 100000): what it was. BAD");
        PigLine x = Lines.oneJoint();
        first(x, 5);
        int[] bad = {-1, 100001, LEAST, MOST};
        for (int b : bad) {
            due.is("alone " + b, x.alone(b), -2);
            due.is("it stays", x.pairing(0), 400);
        }
        due.is("greatest", x.alone(100000), 400);
        due.is("it counts", x.pairing(0), 100000);
        due.is("least", x.alone(0), 100000);
        due.is("it counts", x.pairing(0), 0);
        due.is("what it was", x.alone(1), 0);
        due.is("the same again", x.alone(1), 1);
    }

    private static void aloneAtFirst() {
        due.sentence("Terms: ALONE (400 at first)");
        due.is("alone", new PigLine().alone(7), 400);
        PigLine x = Lines.oneJoint();
        first(x, 5);
        second(x, 806);
        due.is("801 are more than twice 400", x.pairing(0), 800);
    }

    private static void jointWithoutMarks() {
        due.sentence("Promise 22: the COST of the PAIRING where there are no MARKS");
        PigLine x = Lines.oneJoint();
        due.is("none", x.pairing(0), 0);
        x.mark(0, 1000, 0, 0, 0);
        x.mark(1, 6999, 0, 0, 0);
        due.is("none in the joint", x.pairing(0), 0);
        x = Lines.book(5);
        due.is("nothing felt", x.pairing(0), 0);
    }

    private static void runWithoutFeltJoint() {
        due.sentence("Promise 22: of a RUN that has no FELT JOINT paired with it there are no MARKS");
        for (int r = 0; r < 2; r++) {
            PigLine x = Lines.oneJoint();
            first(x, 1, 2);
            second(x, 1, 2, 3);
            due.is("both", x.pairing(0), 400);
            x.lose(4 * r + 3);
            due.is("RUN " + r + " feels nothing", x.pairing(0), r == 0 ? 1200 : 800);
            x.lose(3);
            x.lose(7);
            due.is("neither feels anything", x.pairing(0), 0);
        }
        // Felt, but not paired with the joint: 5000 is too far off.
        PigLine x = Lines.book(5000);
        Lines.feel(x, 0, 1000);
        Lines.feel(x, 1, 5000);
        first(x, 1);
        x.mark(1, 1, 0, 0, 0);
        due.is("RUN 0 is left out", x.paired(0, 0), -1);
        due.is("RUN 1 alone", x.pairing(0), 400);
        twins("left out", x, -1);
    }

    private static void pairingRefusals() {
        due.sentence("Promise 22: BAD");
        PigLine x = Lines.oneJoint();
        int[] none = {-1, 1, 40, LEAST, MOST};
        for (int j : none) {
            due.is("pairing " + j, x.pairing(j), -2);
        }
        due.is("of an empty book", new PigLine().pairing(0), -2);
        x.wipe();
        due.is("of one that was wiped", x.pairing(0), -2);
        due.is("no finding", x.count(6), 0);
    }

    private static void fiveOfRunZero() {
        due.sentence("Terms: MARKS of RUN 0, 5 at most");
        PigLine x = Lines.oneJoint();
        for (int n = 1; n <= 7; n++) {
            first(x, 10 * n);
            due.is(n + " marks", x.pairing(0), 400 * Math.min(n, 5));
        }
        second(x, 60, 70);
        // Of 40 and 50 each costs the same with either; the sixth and the seventh would fit without cost.
        twins("the fifth has one, the sixth has none", x, -1, -1, -1, 0, 1, -1, -1);
        due.is("growth of the sixth", x.growth(5, 0), -4);
    }

    private static void fiveOfRunOne() {
        due.sentence("Terms: MARKS of RUN 1, 5 at most");
        PigLine x = Lines.oneJoint();
        for (int n = 1; n <= 7; n++) {
            second(x, 10 * n);
            due.is(n + " marks", x.pairing(0), 400 * Math.min(n, 5));
        }
        first(x, 50, 70);
        due.is("50 with 50, 70 with 40", x.pairing(0), 30 + 1200);
        twins("the sixth and the seventh count for nothing", x, 3, 4);
        x.clear(0);
        first(x, 10, 20, 30, 40, 50);
        due.is("five and five", x.pairing(0), 0);
        twins("five and five", x, 0, 1, 2, 3, 4);
    }

    private static void firstByNumbers() {
        due.sentence("Terms: 5 of each at most (the first by numbers)");
        PigLine x = Lines.oneJoint();
        // Those outside the joint have numbers too, but do not count among the five.
        x.mark(0, 1000, 0, 0, 0);
        x.mark(1, 6999, 0, 0, 0);
        first(x, 900, 800, 700, 600, 500, 100);
        second(x, 100, 900, 800, 700, 600, 500);
        x.alone(150);
        due.is("four pairs, one alone on either side", x.pairing(0), 300);
        twins("the first by numbers", x, -1, 2, 3, 4, 5, -1, -1);
    }

    private static void fromTheBeginnings() {
        due.sentence("Terms: COST: the difference of how far they lie from their JOINTS' beginnings");
        PigLine x = Lines.oneJoint();
        first(x, 0);
        second(x, 0);
        due.is("at both beginnings", x.pairing(0), 0);
        x.clear(1);
        second(x, 30);
        due.is("30 behind", x.pairing(0), 30);
        x.clear(0);
        first(x, 90);
        due.is("60 ahead", x.pairing(0), 60);
        x.alone(1000);
        x.clear(0);
        x.clear(1);
        first(x, 0);
        second(x, 999);
        due.is("from end to end", x.pairing(0), 999);
    }

    private static void hoursApart() {
        due.sentence("Terms: 100 for each hour that their CLOCKS are apart (round the clock)");
        for (int one = 0; one < 12; one++) {
            for (int other = 0; other < 12; other++) {
                int straight = Math.abs(one - other);
                PigLine x = Lines.oneJoint();
                x.mark(0, 3, one, 0, 0);
                x.mark(1, 7003, other, 0, 0);
                due.is(one + " and " + other, x.pairing(0), 100 * (straight > 6 ? 12 - straight : straight));
            }
        }
    }

    private static void pairOrLeftOut() {
        due.sentence("Terms: a MARK left out costs ALONE, be it of either RUN");
        PigLine x = Lines.oneJoint();
        first(x, 100);
        second(x, 300);
        x.alone(101);
        due.is("200 are less than 202", x.pairing(0), 200);
        twins("paired", x, 0);
        x.alone(100);
        due.is("200 either way", x.pairing(0), 200);
        twins("left out comes behind", x, 0);
        x.alone(99);
        due.is("198 are less than 200", x.pairing(0), 198);
        twins("left out", x, -1);
    }

    private static void leastCostOfAll() {
        due.sentence("Terms: the PAIRING with the least COST");
        PigLine x = Lines.oneJoint();
        x.alone(100000);
        first(x, 100, 110);
        second(x, 105, 0);
        // 0 with 0 and 1 with 1 cost 5 and 110; 0 with 1 and 1 with 0 cost 100 and 5.
        due.is("crossed", x.pairing(0), 105);
        twins("crossed", x, 1, 0);
        x.clear(0);
        x.clear(1);
        x.alone(400);
        first(x, 500, 501, 502, 503, 504);
        second(x, 504, 503, 502, 501, 500);
        due.is("all turned round", x.pairing(0), 0);
        twins("all turned round", x, 4, 3, 2, 1, 0);
    }

    private static void lesserNumber() {
        due.sentence("Terms: of like ones the MARK of RUN 1 has the lesser number");
        PigLine x = Lines.oneJoint();
        first(x, 100);
        second(x, 110, 90, 110);
        due.is("10 either way", x.pairing(0), 810);
        twins("the lesser number", x, 0);
        x.clear(1);
        x.mark(1, 0, 0, 0, 0);
        second(x, 90, 110);
        twins("by numbers, not by places", x, 1);
    }

    private static void firstInWhichTheyPart() {
        due.sentence("Terms: by MARKS of RUN 0 from the first on, at the first in which they part");
        PigLine x = Lines.oneJoint();
        first(x, 100, 100, 100);
        second(x, 100, 100, 100);
        twins("all alike", x, 0, 1, 2);
        x.clear(0);
        x.clear(1);
        // All four ways of pairing two with two cost 40.
        first(x, 120, 130);
        second(x, 150, 140);
        due.is("like ones", x.pairing(0), 40);
        twins("the first takes the lesser", x, 0, 1);
        x.clear(0);
        x.clear(1);
        // The first must take 1, the second and third are free to part.
        first(x, 900, 100, 100);
        second(x, 100, 900, 100);
        twins("at the second", x, 1, 0, 2);
    }

    private static void leftOutComesBehind() {
        due.sentence("Terms: of like ones left out comes behind all");
        PigLine x = Lines.oneJoint();
        first(x, 100, 100);
        second(x, 100);
        twins("the second is left out", x, 0, -1);
        x.clear(0);
        x.clear(1);
        x.alone(0);
        first(x, 100, 200);
        second(x, 200, 100);
        due.is("for nothing", x.pairing(0), 0);
        twins("pairs for nothing", x, 1, 0);
        x.clear(1);
        second(x, 201, 101);
        twins("pairs that cost are left", x, -1, -1);
        x.alone(1);
        // 1 for a pair is less than 2 for both alone.
        twins("pairs that cost less", x, 1, 0);
    }

    private static void oneToOne() {
        due.sentence("Terms: PAIRS of MARKS: no MARK is in two of them");
        PigLine x = Lines.oneJoint();
        x.alone(10);
        // For the second a pair would cost as much as to be left out, but the first has taken it.
        first(x, 100, 110);
        second(x, 100);
        due.is("one pair, one alone", x.pairing(0), 10);
        twins("the second is left out", x, 0, -1);
        x.clear(1);
        second(x, 100, 120);
        due.is("two pairs", x.pairing(0), 10);
        twins("the second takes the other", x, 0, 1);
        // The same with each place among the five of RUN 1 as the one that both want.
        for (int wanted = 0; wanted < 5; wanted++) {
            x.clear(1);
            for (int k = 0; k < 5; k++) {
                second(x, k == wanted ? 100 : 900);
            }
            due.is("one pair, five alone", x.pairing(0), 50);
            twins("place " + wanted + " is taken once", x, wanted, -1);
        }
    }

    private static void twinInItsJoint() {
        due.sentence("Promise 23: in the JOINT of THE BOOK with which its FELT JOINT is paired");
        PigLine x = Lines.book(1000, 2000);
        Lines.feel(x, 0, 1000, 2000);
        Lines.feel(x, 1, 50, 1000, 2000);
        x.mark(0, 999, 0, 0, 0);
        x.mark(0, 1000, 0, 0, 0);
        x.mark(0, 1049, 0, 0, 0);
        x.mark(1, 1050, 0, 0, 0);
        x.mark(1, 1049, 0, 0, 0);
        x.mark(1, 49, 0, 0, 0);
        x.mark(1, 1099, 0, 0, 0);
        twins("each in its own", x, 1, 0, 3);
        due.is("joint 0", x.pairing(0), 0);
        due.is("joint 1", x.pairing(1), 0);
    }

    private static void twinWithAGreaterNumber() {
        due.sentence("Promise 25: a twin with a number that RUN 0 has not");
        PigLine x = Lines.oneJoint();
        x.mark(0, 5, 0, 20, 0);
        x.mark(1, 0, 0, 99, 0);
        x.mark(1, 7005, 0, 50, 0);
        twins("the second of RUN 1", x, 1);
        facts("its growth", x, 20, 40, 3);
    }

    private static void twinNone() {
        due.sentence("Promise 23: NONE (also where it is none of the first 5 there)");
        PigLine x = Lines.oneJoint();
        first(x, 100, 100, 100, 100, 100, 100);
        second(x, 100, 100, 100, 100, 100, 100);
        twins("the sixth", x, 0, 1, 2, 3, 4, -1);
        x = Lines.oneJoint();
        x.mark(0, 1000, 0, 0, 0);
        second(x, 0);
        twins("behind the last felt joint", x, -1);
        x = Lines.oneJoint();
        first(x, 100);
        twins("RUN 1 has no marks", x, -1);
        second(x, 100);
        twins("now it has", x, 0);
        x.wipe();
        twins("no book", x, -1);
        // The felt joint of 7000 is paired with none of the book's.
        x = Lines.book(1000);
        Lines.feel(x, 0, 7000, 1000);
        Lines.feel(x, 1, 7000, 1000);
        x.mark(0, 5, 0, 0, 0);
        x.mark(0, 7005, 0, 0, 0);
        x.mark(1, 5, 0, 0, 0);
        x.mark(1, 7005, 0, 0, 0);
        twins("in a felt joint that is left out", x, -1, 1);
    }

    private static void twinRefusals() {
        due.sentence("Promise 23: BAD");
        PigLine x = Lines.oneJoint();
        first(x, 5);
        second(x, 5, 6, 7);
        int[] none = {-1, 1, 2, 40, LEAST, MOST};
        for (int m : none) {
            due.is("twin " + m, x.twin(m), -2);
        }
        due.is("without marks", Lines.oneJoint().twin(0), -2);
        due.is("no finding", x.count(6), 0);
    }

    /** One MARK in each RUN, a pair. */
    private static PigLine grown(int before, int after) {
        PigLine x = Lines.oneJoint();
        x.mark(0, 5, 0, before, 0);
        x.mark(1, 7005, 0, after, 0);
        return x;
    }

    private static void facts(String what, PigLine x, int least, int most, int last) {
        due.is(what + ": LEAST", x.growth(0, 0), least);
        due.is(what + ": MOST", x.growth(0, 1), most);
        due.is(what + ": LAST", x.growth(0, 2), last);
    }

    private static void toolBounds() {
        due.sentence("Promise 24: YEARS (1 to 50), TOOL (0 to 50), LIMIT (0 to 100): 1. BAD");
        int[][] bad = {{0, 7, 7}, {-1, 7, 7}, {51, 7, 7}, {LEAST, 7, 7}, {MOST, 7, 7}, {7, -1, 7}, {7, 51, 7},
            {7, LEAST, 7}, {7, MOST, 7}, {7, 7, -1}, {7, 7, 101}, {7, 7, LEAST}, {7, 7, MOST}, {0, 51, 101}};
        for (int[] b : bad) {
            PigLine x = grown(20, 50);
            due.is("tool " + b[0] + " " + b[1] + " " + b[2], x.tool(b[0], b[1], b[2]), -2);
            facts("all stay", x, 20, 40, 3);
        }
        PigLine x = grown(20, 50);
        due.is("YEARS least", x.tool(1, 5, 80), 1);
        facts("YEARS least", x, 20, 40, 0);
        due.is("YEARS greatest", x.tool(50, 5, 80), 1);
        facts("YEARS greatest", x, 20, 40, 31);
        due.is("TOOL least", x.tool(5, 0, 80), 1);
        facts("TOOL least", x, 30, 30, 5);
        due.is("TOOL greatest", x.tool(5, 50, 100), 1);
        facts("TOOL greatest", x, 0, 100, 0);
        due.is("LIMIT least", x.tool(5, 5, 0), 1);
        facts("LIMIT least", x, 20, 40, -1);
        due.is("LIMIT greatest", x.tool(5, 5, 100), 1);
        facts("LIMIT greatest", x, 20, 40, 5);
    }

    private static void toolAtFirst() {
        due.sentence("Terms: YEARS (5 at first), TOOL (5 at first), LIMIT (80 at first)");
        PigLine x = grown(30, 60);
        int[] atFirst = {x.growth(0, 0), x.growth(0, 1), x.growth(0, 2)};
        x.tool(5, 5, 80);
        facts("the same when told", x, atFirst[0], atFirst[1], atFirst[2]);
        facts("60 and 5 within 80", x, 20, 40, 1);
        facts("75 is 5 below 80", grown(70, 70), 0, 10, 2);
    }

    private static void cutToNothing() {
        due.sentence("Terms: a DEPTH is truly from itself less TOOL, cut to 0");
        facts("RUN 0: 4 less 5", grown(4, 10), 0, 15, 21);
        facts("RUN 0: 5 less 5", grown(5, 10), 0, 15, 21);
        facts("RUN 0: 6 less 5", grown(6, 10), 0, 14, 23);
        PigLine x = grown(0, 3);
        x.tool(5, 5, 80);
        facts("RUN 1: 3 less 5", x, 0, 8, 45);
        x = grown(0, 0);
        x.tool(1, 50, 100);
        facts("0 less 50", x, 0, 50, 1);
    }

    private static void cutToAHundred() {
        due.sentence("Terms: a DEPTH is truly to itself and TOOL, cut to 100");
        PigLine x = grown(50, 96);
        x.tool(5, 5, 100);
        facts("RUN 1: 96 and 5", x, 36, 55, 0);
        x = grown(50, 95);
        x.tool(5, 5, 100);
        facts("RUN 1: 95 and 5", x, 35, 55, 0);
        x = grown(50, 94);
        x.tool(50, 5, 100);
        facts("RUN 1: 94 and 5", x, 34, 54, 0);
        x = grown(98, 100);
        x.tool(5, 50, 100);
        facts("RUN 0: 98 and 50", x, 0, 52, 0);
        x = grown(100, 100);
        x.tool(50, 1, 100);
        facts("100 and 1", x, 0, 1, 0);
    }

    private static void neverBelowNothing() {
        due.sentence("Terms: neither LEAST nor MOST below 0 (0 then)");
        facts("both would be below", grown(60, 20), 0, 0, 99);
        facts("LEAST would be -1", grown(20, 29), 0, 19, 12);
        facts("LEAST is 0", grown(20, 30), 0, 20, 11);
        facts("LEAST is 1", grown(20, 31), 1, 21, 10);
        facts("MOST would be -1", grown(40, 29), 0, 0, 99);
        facts("MOST is 0", grown(40, 30), 0, 0, 99);
        facts("MOST is 1", grown(40, 31), 0, 1, 99);
    }

    private static void lastEdges() {
        due.sentence("Terms: LAST: the greatest n, 0 to 99, at most LIMIT times YEARS");
        PigLine x = grown(10, 20);
        int[][] rows = {{1, 20, 0}, {1, 29, 0}, {1, 30, 1}, {1, 31, 1}, {1, 100, 8}, {7, 21, 0}, {7, 22, 1},
            {50, 39, 95}, {49, 40, 98}, {50, 40, 99}, {50, 41, 99}, {50, 100, 99}};
        for (int[] row : rows) {
            x.tool(row[0], 0, row[1]);
            due.is(row[0] + " years, limit " + row[1], x.growth(0, 2), row[2]);
        }
        x = grown(20, 20);
        x.tool(1, 0, 20);
        due.is("no growth, just there: 99", x.growth(0, 2), 99);
        x = grown(0, 0);
        x.tool(1, 0, 0);
        due.is("nothing at all: 99", x.growth(0, 2), 99);
    }

    private static void lastNone() {
        due.sentence("Terms: LAST: NONE, if there is none");
        PigLine x = grown(10, 20);
        x.tool(1, 0, 19);
        due.is("beyond already", x.growth(0, 2), -1);
        x.tool(50, 0, 19);
        due.is("beyond, however many years", x.growth(0, 2), -1);
        x = grown(90, 20);
        x.tool(1, 0, 19);
        due.is("beyond without growth", x.growth(0, 2), -1);
        x = grown(0, 100);
        x.tool(50, 0, 99);
        due.is("100 of 99", x.growth(0, 2), -1);
        x.tool(50, 0, 100);
        due.is("100 of 100", x.growth(0, 2), 0);
    }

    private static void growthBad() {
        due.sentence("Promise 25: BAD: m, what");
        PigLine x = grown(20, 50);
        second(x, 6, 7);
        int[] noMark = {-1, 1, 2, 40, LEAST, MOST};
        for (int m : noMark) {
            for (int what = 0; what <= 2; what++) {
                due.is("growth of " + m, x.growth(m, what), -2);
            }
        }
        int[] noWhat = {-1, 3, LEAST, MOST};
        for (int what : noWhat) {
            due.is("growth what " + what, x.growth(0, what), -2);
        }
        due.is("no finding", x.count(6), 0);
    }

    private static void growthNot() {
        due.sentence("Promise 25: NOT: it has no twin; BAD ahead of it");
        PigLine x = Lines.oneJoint();
        first(x, 5);
        for (int what = 0; what <= 2; what++) {
            due.is("growth " + what, x.growth(0, what), -4);
        }
        due.is("BAD what", x.growth(0, 3), -2);
        due.is("BAD what below", x.growth(0, -1), -2);
        due.is("BAD m", x.growth(1, 0), -2);
        due.is("no finding", x.count(6), 0);
    }
}
