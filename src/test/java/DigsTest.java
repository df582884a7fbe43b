/** Promises 26 to 30: work, yearly, plan, years, when. */
public final class DigsTest {
    private static final Due due = new Due();

    public static void main(String[] args) {
        work();
        yearly();
        plan();
        ties();
        when();
        none();
        greatest();
        due.end();
    }

    private static PigLine digs(int k, int setting, int... lastYears) {
        PigLine x = new PigLine();
        x.yearly(k, setting);
        for (int year : lastYears) {
            x.work(10, year);
        }
        return x;
    }

    private static void work() {
        PigLine x = new PigLine();
        int[][] bad = {{0, 1}, {1001, 1}, {1, 0}, {1, 9}, {-1, -1}, {Integer.MAX_VALUE, 1}, {1, Integer.MIN_VALUE}};
        refused(x, bad);
        due.is("nothing came", x.count(3), 0);
        due.is("least", x.work(1, 1), 0);
        due.is("greatest", x.work(1000, 8), 1);
        for (int w = 2; w < 30; w++) {
            due.is("work " + w, x.work(5, 8), w);
        }
        refused(x, bad);
        due.is("FULL", x.work(5, 8), -3);
        due.is("30", x.count(3), 30);
        due.is("all costs", x.plan(), 1 + 1000 + 28 * 5 + 8 * 500);
    }

    private static void refused(PigLine x, int[][] bad) {
        for (int[] b : bad) {
            due.is("work " + b[0] + " " + b[1], x.work(b[0], b[1]), -2);
        }
    }

    private static void yearly() {
        PigLine x = new PigLine();
        for (int w = 0; w < 5; w++) {
            x.work(10, 8);
        }
        due.is("4 and 500 at first", x.plan(), 1050);
        int[][] bad = {{0, 0}, {31, 0}, {1, -1}, {1, 10001}, {Integer.MIN_VALUE, 0}, {1, Integer.MAX_VALUE}};
        for (int[] b : bad) {
            due.is("yearly " + b[0] + " " + b[1], x.yearly(b[0], b[1]), -2);
        }
        due.is("refused: as they were", x.plan(), 1050);
        due.is("yearly", x.yearly(5, 7), 1);
        due.is("all in one", x.plan(), 57);
        due.is("yearly", x.yearly(1, 10000), 1);
        due.is("five years", x.plan(), 50050);
        due.is("yearly greatest", x.yearly(30, 0), 1);
        due.is("nothing on top", x.plan(), 50);
    }

    private static void chosen(String what, PigLine x, int cost, int years) {
        due.is(what + ": plan", x.plan(), cost);
        due.is(what + ": years", x.years(), years);
    }

    private static void plan() {
        chosen("no works", digs(1, 500), 0, 0);
        chosen("one", digs(1, 500, 8), 510, 1);
        chosen("one by year 1", digs(1, 500, 1), 510, 1);
        chosen("two by year 2", digs(1, 500, 2, 2), 1020, 3);
        chosen("two in one", digs(2, 500, 2, 2), 520, 1);
        chosen("three by 3, two in one", digs(2, 500, 3, 3, 3), 1030, 3);
        chosen("one by 1, two by 8, one a year", digs(1, 500, 8, 1, 8), 1530, 7);
        chosen("full house", digs(1, 1, 1, 2, 3, 4, 5, 6, 7, 8), 88, 255);
    }

    private static void ties() {
        chosen("the least as a number", digs(2, 0, 8, 8, 8), 30, 3);
        chosen("nothing on top", digs(2, 0, 8), 10, 1);
        chosen("no works, nothing on top", digs(2, 0), 0, 0);
        chosen("fewer years ahead of lesser ones", digs(3, 1, 8, 8, 8, 8), 42, 3);
    }

    private static void when() {
        PigLine x = digs(2, 500, 8, 3, 1, 3, 8, 1);
        chosen("six, two a year", x, 1560, 7);
        int[] years = {3, 2, 1, 2, 3, 1};
        for (int w = 0; w < years.length; w++) {
            due.is("work " + w, x.when(w), years[w]);
        }
        int[] none = {-1, 6, Integer.MIN_VALUE, Integer.MAX_VALUE};
        for (int w : none) {
            due.is("when " + w, x.when(w), -2);
        }
        x = digs(2, 500, 5, 5, 5, 5, 5);
        int[] byNumbers = {1, 1, 2, 2, 3};
        for (int w = 0; w < byNumbers.length; w++) {
            due.is("like ones by numbers " + w, x.when(w), byNumbers[w]);
        }
        x.work(10, 4);
        due.is("the earlier last year goes first", x.when(5), 1);
        due.is("the first stays in year 1", x.when(0), 1);
        due.is("the second is moved on", x.when(1), 2);
    }

    private static void none() {
        PigLine x = digs(1, 500, 1, 1);
        chosen("two by year 1, one a year", x, -4, -4);
        due.is("when", x.when(0), -4);
        due.is("BAD ahead of NOT", x.when(2), -2);
        x.yearly(2, 500);
        chosen("two a year", x, 520, 1);
        x = digs(1, 0, 8, 8, 8, 8, 8, 8, 8, 8, 8);
        chosen("nine in eight years", x, -4, -4);
        x = digs(1, 0, 1, 3, 3, 3);
        chosen("four by year 3", x, -4, -4);
    }

    private static void greatest() {
        PigLine x = new PigLine();
        x.yearly(4, 10000);
        for (int w = 0; w < 30; w++) {
            x.work(1000, 8);
        }
        chosen("all", x, 110000, 255);
        due.is("the last", x.when(29), 8);
        due.is("the first", x.when(0), 1);
    }
}
