/** Promises 21 to 25: alone, pairing, twin, tool, growth. */
public final class PairsTest {
    private static final Due due = new Due();

    public static void main(String[] args) {
        alone();
        bad();
        costOfPairs();
        ties();
        fiveAtMost();
        joints();
        growth();
        last();
        tool();
        due.end();
    }

    /** Both runs feel joints of 1000 and 2000 (run 1 with 50 ahead of them), and so has the book. */
    private static PigLine line() {
        PigLine x = new PigLine();
        int[][] lengths = {{1000, 2000}, {50, 1000, 2000}};
        for (int r = 0; r < 2; r++) {
            x.reel(4 * r + 1, 2, lengths[r].length);
            x.reel(4 * r + 3, 0, lengths[r].length);
            for (int i = 0; i < lengths[r].length; i++) {
                x.put(4 * r + 1, 2, i, lengths[r][i]);
                x.put(4 * r + 3, 0, i, 1);
            }
        }
        x.joint(1000);
        x.joint(2000);
        due.is("run 0 is matched", x.paired(0, 1), 1);
        due.is("run 1 is matched", x.paired(1, 1), 2);
        return x;
    }

    private static void twins(String what, PigLine x, int... twins) {
        for (int m = 0; m < twins.length; m++) {
            due.is(what + ": twin of " + m, x.twin(m), twins[m]);
        }
        due.is(what + ": no mark more", x.twin(twins.length), -2);
    }

    private static void alone() {
        PigLine x = line();
        x.mark(0, 10, 0, 0, 0);
        due.is("400 at first", x.pairing(0), 400);
        due.is("alone below", x.alone(-1), -2);
        due.is("alone above", x.alone(100001), -2);
        due.is("as it was", x.pairing(0), 400);
        due.is("alone", x.alone(100000), 400);
        due.is("100000", x.pairing(0), 100000);
        due.is("alone 0", x.alone(0), 100000);
        due.is("nothing", x.pairing(0), 0);
        due.is("what it was", x.alone(7), 0);
    }

    private static void bad() {
        PigLine x = line();
        x.mark(0, 10, 0, 0, 0);
        x.mark(1, 60, 0, 0, 0);
        x.mark(1, 60, 0, 0, 0);
        int[] none = {-1, 2, Integer.MIN_VALUE, Integer.MAX_VALUE};
        for (int n : none) {
            due.is("pairing " + n, x.pairing(n), -2);
            due.is("twin " + n, x.twin(n), -2);
            due.is("growth " + n, x.growth(n, 0), -2);
        }
        due.is("twin of a mark of run 1", x.twin(1), -2);
        due.is("growth of a mark of run 1", x.growth(1, 0), -2);
        due.is("growth what below", x.growth(0, -1), -2);
        due.is("growth what above", x.growth(0, 3), -2);
        due.is("it has a twin", x.twin(0), 0);
        x.wipe();
        due.is("no book, no twin", x.twin(0), -1);
        due.is("no book, no growth", x.growth(0, 0), -4);
        x.joint(1000);
        x.joint(2000);
        x.clear(1);
        due.is("BAD ahead of NOT", x.growth(0, 3), -2);
        due.is("NOT", x.growth(0, 0), -4);
        due.is("NOT", x.growth(0, 2), -4);
        x.wipe();
        due.is("no joint", x.pairing(0), -2);
        due.is("no joint, no twin", x.twin(0), -1);
        due.is("no finding", x.count(6), 0);
    }

    private static void costOfPairs() {
        PigLine x = line();
        x.mark(0, 100, 11, 0, 0);
        x.mark(1, 180, 1, 0, 0);
        due.is("30 apart, two hours", x.pairing(0), 230);
        twins("one pair", x, 0);
        x.alone(114);
        due.is("228 alone", x.pairing(0), 228);
        twins("alone", x, -1);
        x.alone(115);
        due.is("230 either way: paired", x.pairing(0), 230);
        twins("paired ahead of left out", x, 0);
        due.is("the other joint is empty", x.pairing(1), 0);
        x.clear(0);
        due.is("a mark of run 1 alone", x.pairing(0), 115);
        // One to one: both would like the same, the whole is what counts.
        x.clear(1);
        x.alone(1000);
        x.mark(0, 100, 0, 0, 0);
        x.mark(0, 110, 0, 0, 0);
        x.mark(1, 155, 0, 0, 0);
        x.mark(1, 50, 0, 0, 0);
        due.is("crossed", x.pairing(0), 105);
        twins("crossed", x, 1, 0);
        x.clear(0);
        x.clear(1);
        x.alone(1000);
        x.mark(0, 500, 0, 0, 0);
        x.mark(0, 510, 0, 0, 0);
        x.mark(1, 560, 0, 0, 0);
        x.mark(1, 950, 0, 0, 0);
        due.is("the greedy would pay more", x.pairing(0), 400);
        x.mark(1, 551, 6, 0, 0);
        due.is("six hours are 600", x.pairing(0), 1400);
    }

    private static void ties() {
        PigLine x = line();
        x.mark(0, 100, 0, 0, 0);
        x.mark(0, 100, 0, 0, 0);
        x.mark(1, 150, 0, 0, 0);
        x.mark(1, 150, 0, 0, 0);
        twins("like ones by numbers", x, 0, 1);
        x.mark(1, 150, 0, 0, 0);
        twins("the last is left out", x, 0, 1);
        x.clear(1);
        x.mark(1, 150, 0, 0, 0);
        twins("the first has it", x, 0, -1);
        due.is("one alone", x.pairing(0), 400);
        x.clear(0);
        x.clear(1);
        // 0 with 0 and 1 with 1 cost 30 and 10, 0 with 1 and 1 with 0 cost 20 and 20.
        x.mark(0, 120, 0, 0, 0);
        x.mark(0, 130, 0, 0, 0);
        x.mark(1, 200, 0, 0, 0);
        x.mark(1, 190, 0, 0, 0);
        due.is("like costs", x.pairing(0), 40);
        twins("the lesser number for the first", x, 0, 1);
        x.alone(0);
        twins("all left out for nothing", x, -1, -1);
        x.mark(0, 140, 0, 0, 0);
        twins("a pair for nothing comes ahead", x, -1, -1, 1);
    }

    private static void fiveAtMost() {
        PigLine x = line();
        for (int m = 0; m < 6; m++) {
            x.mark(0, 2500, 0, 0, 0);
            x.mark(0, 100 * m, 0, 0, 0);
        }
        for (int m = 0; m < 7; m++) {
            x.mark(1, 50 + 100 * (6 - m), 0, 0, 0);
        }
        // In joint 0 lie 1, 3, .. 9 (and 11, which is the sixth) and 0 .. 4 of run 1 (5 and 6 do not count).
        // 1000 wants each to lie ahead of its twin; of such the first ones have the lesser numbers.
        due.is("five and five", x.pairing(0), 1000);
        twins("the sixth has none", x, -1, 0, -1, 1, -1, 4, -1, 3, -1, 2, -1, -1);
        due.is("five alone", x.pairing(1), 2000);
        due.is("growth of the sixth", x.growth(11, 0), -4);
    }

    private static void joints() {
        PigLine x = line();
        x.mark(0, 999, 0, 0, 0);
        x.mark(0, 1000, 0, 0, 0);
        x.mark(0, 3000, 0, 0, 0);
        x.mark(1, 1050, 0, 0, 0);
        x.mark(1, 49, 0, 0, 0);
        x.mark(1, 1049, 0, 0, 0);
        twins("each in its joint", x, 2, 0, -1);
        due.is("joint 0", x.pairing(0), 0);
        due.is("joint 1", x.pairing(1), 0);
        // Run 1 loses its feelers: no marks of it are in any joint.
        x.lose(7);
        due.is("joint 0 of run 0 alone", x.pairing(0), 400);
        twins("none", x, -1, -1, -1);
        // Run 0 loses its own: a mark in no joint has no twin.
        x.reel(7, 0, 3);
        x.put(7, 0, 0, 1);
        x.put(7, 0, 1, 1);
        x.lose(3);
        due.is("joint 0 of run 1 alone", x.pairing(0), 400);
        twins("still none", x, -1, -1, -1);
        // A felt joint that is paired with none of the book's.
        x = line();
        x.wipe();
        x.joint(2000);
        x.mark(0, 10, 0, 0, 0);
        x.mark(0, 1010, 0, 0, 0);
        x.mark(1, 60, 0, 0, 0);
        x.mark(1, 1060, 0, 0, 0);
        twins("only in the book's", x, -1, 1);
        due.is("joint 0 is the second felt", x.pairing(0), 0);
    }

    private static PigLine grown(int before, int after) {
        PigLine x = line();
        x.mark(0, 100, 0, before, 0);
        x.mark(1, 150, 0, after, 0);
        return x;
    }

    private static void facts(String what, PigLine x, int least, int most, int last) {
        due.is(what + ": LEAST", x.growth(0, 0), least);
        due.is(what + ": MOST", x.growth(0, 1), most);
        due.is(what + ": LAST", x.growth(0, 2), last);
    }

    private static void growth() {
        facts("at first 5, 5, 80", grown(20, 50), 20, 40, 3);
        facts("cut at 0", grown(3, 4), 0, 9, 39);
        facts("cut at 100", grown(97, 99), 0, 8, -1);
        facts("less than before", grown(60, 20), 0, 0, 99);
        PigLine x = grown(60, 51);
        facts("spans that just hold", x, 0, 1, 99);
        x.tool(5, 0, 80);
        facts("no tool", x, 0, 0, 99);
        x = grown(0, 100);
        x.tool(1, 0, 100);
        facts("all of it", x, 100, 100, 0);
        x.tool(1, 50, 100);
        facts("the greatest tool", x, 0, 100, 0);
        x = line();
        x.mark(0, 100, 0, 20, 0);
        x.mark(1, 0, 0, 99, 0);
        x.mark(1, 150, 0, 50, 0);
        due.is("its twin is a number that run 0 has not", x.twin(0), 1);
        facts("the second of run 1", x, 20, 40, 3);
    }

    private static void last() {
        PigLine x = grown(10, 20);
        x.tool(1, 0, 30);
        facts("20 and 10 n at most 30", x, 10, 10, 1);
        x.tool(1, 0, 29);
        facts("not yet", x, 10, 10, 0);
        x.tool(1, 0, 20);
        facts("just there", x, 10, 10, 0);
        x.tool(1, 0, 19);
        facts("beyond", x, 10, 10, -1);
        x.tool(50, 0, 39);
        facts("950 are 95 times 10", x, 10, 10, 95);
        x.tool(50, 0, 40);
        facts("99 at most", x, 10, 10, 99);
        x.tool(7, 0, 22);
        facts("14 are not twice 10", x, 10, 10, 1);
        x.tool(1, 0, 0);
        facts("limit 0", x, 10, 10, -1);
    }

    private static void tool() {
        PigLine x = grown(20, 50);
        int[][] bad = {{0, 0, 0}, {51, 0, 0}, {1, -1, 0}, {1, 51, 0}, {1, 0, -1}, {1, 0, 101},
            {Integer.MIN_VALUE, 0, 0}, {1, Integer.MAX_VALUE, 0}};
        for (int[] b : bad) {
            due.is("tool " + java.util.Arrays.toString(b), x.tool(b[0], b[1], b[2]), -2);
        }
        facts("refused: as they were", x, 20, 40, 3);
        due.is("least", x.tool(1, 0, 0), 1);
        facts("least", x, 30, 30, -1);
        due.is("greatest", x.tool(50, 50, 100), 1);
        facts("greatest", x, 0, 100, 0);
    }
}
