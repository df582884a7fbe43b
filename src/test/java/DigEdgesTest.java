/** The boundary sentences of the document on DIGS (promises 26 to 30), each with objects of its own. */
public final class DigEdgesTest {
    private static final int LEAST = Lines.LEAST, MOST = Lines.MOST;
    private static final Due due = new Due();

    public static void main(String[] args) {
        thirtyWorks();
        costs();
        lastYears();
        badAheadOfFull();
        yearlyBounds();
        yearlyAtFirst();
        noWorks();
        byItsLastYear();
        roomInAYear();
        noPlan();
        costsLeast();
        leastAsANumber();
        yearsAsBits();
        allCosts();
        whenByLastYears();
        whenByNumbers();
        firstYearWithRoom();
        whenRefusals();
        whenNot();
        due.end();
    }

    private static PigLine digs(int k, int setting, int... lastYears) {
        PigLine x = new PigLine();
        x.yearly(k, setting);
        for (int year : lastYears) {
            x.work(10, year);
        }
        return x;
    }

    private static void plan(String what, PigLine x, int cost, int years) {
        due.is(what + ": plan", x.plan(), cost);
        due.is(what + ": years", x.years(), years);
    }

    private static void thirtyWorks() {
        due.sentence("Terms: up to 30 WORKS; promise 26: its number; FULL");
        PigLine x = new PigLine();
        for (int w = 0; w < 30; w++) {
            due.is("work", x.work(1 + w, 8), w);
        }
        due.is("the 31st", x.work(1, 8), -3);
        due.is("and again", x.work(1000, 1), -3);
        due.is("30", x.count(3), 30);
        due.is("it costs nothing", x.plan(), 465 + 4000);
        due.is("the last", x.when(29), 8);
        due.is("there is no 31st", x.when(30), -2);
        due.is("FULL is no finding", x.count(6), 0);
    }

    private static void costs() {
        due.sentence("Terms: a WORK's COST (1 to 1000); promise 26: BAD");
        PigLine x = new PigLine();
        int[] bad = {0, -1, 1001, LEAST, MOST};
        for (int cost : bad) {
            due.is("work of " + cost, x.work(cost, 8), -2);
        }
        due.is("none came", x.count(3), 0);
        due.is("1", x.work(1, 8), 0);
        due.is("its cost", x.plan(), 501);
        due.is("1000", x.work(1000, 8), 1);
        due.is("its cost", x.plan(), 1501);
    }

    private static void lastYears() {
        due.sentence("Terms: a last YEAR (1 to 8); promise 26: BAD");
        PigLine x = new PigLine();
        int[] bad = {0, -1, 9, LEAST, MOST};
        for (int year : bad) {
            due.is("work by " + year, x.work(5, year), -2);
        }
        due.is("none came", x.count(3), 0);
        due.is("nothing is planned", x.plan(), 0);
        due.is("1", x.work(5, 1), 0);
        due.is("8", x.work(5, 8), 1);
    }

    private static void badAheadOfFull() {
        due.sentence("Refusals, the first that fits: BAD ahead of FULL (work)");
        PigLine x = new PigLine();
        Lines.works(x, 30, 1, 8);
        due.is("cost 0", x.work(0, 8), -2);
        due.is("cost 1001", x.work(1001, 8), -2);
        due.is("year 0", x.work(1, 0), -2);
        due.is("year 9", x.work(1, 9), -2);
        due.is("good", x.work(1, 8), -3);
    }

    private static void yearlyBounds() {
        due.sentence("Promise 27: K (1 to 30) and SETTING (0 to 10000): 1. BAD");
        int[][] bad = {{0, 7}, {-1, 7}, {31, 7}, {LEAST, 7}, {MOST, 7}, {30, -1}, {30, 10001}, {30, LEAST},
            {30, MOST}, {0, -1}};
        for (int[] b : bad) {
            PigLine x = new PigLine();
            Lines.works(x, 5, 10, 8);
            due.is("yearly " + b[0] + " " + b[1], x.yearly(b[0], b[1]), -2);
            plan("both stay", x, 1050, 3);
        }
        PigLine x = new PigLine();
        Lines.works(x, 30, 10, 8);
        due.is("K greatest", x.yearly(30, 500), 1);
        plan("30 in one", x, 800, 1);
        due.is("29", x.yearly(29, 500), 1);
        plan("29 in one", x, 1300, 3);
        due.is("K least", x.yearly(1, 500), 1);
        plan("30 in 8", x, -4, -4);
        due.is("SETTING least", x.yearly(30, 0), 1);
        plan("nothing on top", x, 300, 1);
        due.is("SETTING greatest", x.yearly(4, 10000), 1);
        plan("10000 on top", x, 80300, 255);
    }

    private static void yearlyAtFirst() {
        due.sentence("Terms: K (4 at first), SETTING (500 at first)");
        PigLine x = new PigLine();
        Lines.works(x, 4, 10, 1);
        plan("four in one year", x, 540, 1);
        x.work(10, 1);
        plan("five are too many", x, -4, -4);
    }

    private static void noWorks() {
        due.sentence("Promise 28: THE PLAN of no WORKS");
        plan("a new object", new PigLine(), 0, 0);
        plan("nothing on top", digs(1, 0), 0, 0);
        plan("dear", digs(1, 10000), 0, 0);
    }

    private static void byItsLastYear() {
        due.sentence("Terms: each WORK can be done in one of these by its last YEAR");
        for (int year = 1; year <= 8; year++) {
            plan("one by " + year, digs(1, 500, year), 510, 1);
            int[] full = new int[year];
            java.util.Arrays.fill(full, year);
            plan("as many as years by " + year, digs(1, 500, full), 510 * year, (1 << year) - 1);
            int[] many = new int[year + 1];
            java.util.Arrays.fill(many, year);
            plan("one more by " + year, digs(1, 500, many), -4, -4);
        }
        plan("each by its own", digs(1, 1, 8, 7, 6, 5, 4, 3, 2, 1), 88, 255);
        plan("two of one, none left for it", digs(1, 1, 1, 8, 7, 6, 5, 4, 3, 2, 1), -4, -4);
    }

    private static void roomInAYear() {
        due.sentence("Terms: K in one at most");
        plan("three, three in one", digs(3, 500, 1, 1, 1), 530, 1);
        plan("three, two in one", digs(2, 500, 2, 2, 2), 1030, 3);
        plan("four, two in one", digs(2, 500, 2, 2, 2, 2), 1040, 3);
        plan("five, two in one", digs(2, 500, 2, 2, 2, 2, 2), -4, -4);
        plan("a later one fills what is left", digs(2, 500, 1, 8), 520, 1);
    }

    private static void noPlan() {
        due.sentence("Promises 28, 29: NOT: there is none");
        PigLine x = digs(1, 500, 1, 1);
        plan("two by 1, one in one", x, -4, -4);
        due.is("no finding", x.count(6), 0);
        x.yearly(2, 500);
        plan("two in one", x, 520, 1);
        plan("nine by 8, one in one", digs(1, 0, 8, 8, 8, 8, 8, 8, 8, 8, 8), -4, -4);
        plan("four by 3 among others", digs(1, 0, 8, 3, 8, 3, 2, 3), -4, -4);
    }

    private static void costsLeast() {
        due.sentence("Terms: the one that costs least (SETTING for each of its YEARS)");
        plan("one year is enough", digs(4, 1, 8, 7, 6, 5), 41, 1);
        plan("two years are enough", digs(4, 1, 8, 7, 6, 5, 4), 52, 3);
        plan("one by 1, four by 8", digs(4, 1, 1, 8, 8, 8, 8), 52, 3);
    }

    private static void leastAsANumber() {
        due.sentence("Terms: of like ones the least as a number");
        plan("one", digs(1, 500, 8), 510, 1);
        plan("two", digs(1, 500, 8, 8), 1020, 3);
        plan("for nothing: not a year too many", digs(1, 0, 8), 10, 1);
        plan("for nothing: two", digs(2, 0, 8, 8, 8), 30, 3);
        plan("for nothing: none", digs(2, 0), 0, 0);
    }

    private static void yearsAsBits() {
        due.sentence("Terms: YEARS 1 to 8, as bits (YEAR 1 is bit 0)");
        int[] lasts = new int[8];
        java.util.Arrays.fill(lasts, 8);
        for (int n = 0; n <= 8; n++) {
            PigLine x = digs(1, 500, java.util.Arrays.copyOf(lasts, n));
            due.is(n + " years", x.years(), (1 << n) - 1);
        }
    }

    private static void allCosts() {
        due.sentence("Promise 28: what THE PLAN costs (with all WORKS' COSTS)");
        PigLine x = new PigLine();
        x.yearly(4, 10000);
        Lines.works(x, 30, 1000, 8);
        plan("the dearest", x, 110000, 255);
        x = new PigLine();
        x.work(1, 8);
        x.work(1000, 8);
        x.work(30, 8);
        plan("each by its own", x, 1531, 1);
    }

    private static void whens(String what, PigLine x, int... years) {
        for (int w = 0; w < years.length; w++) {
            due.is(what + ": work " + w, x.when(w), years[w]);
        }
    }

    private static void whenByLastYears() {
        due.sentence("Promise 30: WORKS by their last YEARS");
        whens("backward", digs(1, 500, 8, 7, 6, 5, 4, 3, 2, 1), 8, 7, 6, 5, 4, 3, 2, 1);
        whens("mixed", digs(2, 500, 8, 3, 1, 3, 8, 1), 3, 2, 1, 2, 3, 1);
        PigLine x = digs(1, 500, 8, 8);
        whens("ahead of another", x, 1, 2);
        x.work(10, 7);
        whens("behind another", x, 2, 3, 1);
    }

    private static void whenByNumbers() {
        due.sentence("Promise 30: of like ones by numbers");
        whens("one in one", digs(1, 500, 8, 8, 8, 8), 1, 2, 3, 4);
        whens("two in one", digs(2, 500, 5, 5, 5, 5, 5), 1, 1, 2, 2, 3);
    }

    private static void firstYearWithRoom() {
        due.sentence("Promise 30: each into the first YEAR of it that has room");
        whens("room for all", digs(4, 500, 8, 7, 2, 1), 1, 1, 1, 1);
        whens("the fifth goes on", digs(4, 500, 8, 8, 8, 8, 8), 1, 1, 1, 1, 2);
        PigLine x = digs(4, 500);
        Lines.works(x, 30, 1, 8);
        for (int w = 0; w < 30; w++) {
            due.is("work " + w, x.when(w), 1 + w / 4);
        }
        x.yearly(30, 500);
        due.is("room for 30", x.when(29), 1);
        x.yearly(29, 500);
        due.is("room for 29", x.when(29), 2);
        due.is("the 29th", x.when(28), 1);
    }

    private static void whenRefusals() {
        due.sentence("Promise 30: BAD");
        PigLine x = digs(1, 500, 8, 8);
        int[] none = {-1, 2, 30, LEAST, MOST};
        for (int w : none) {
            due.is("when " + w, x.when(w), -2);
        }
        due.is("the last", x.when(1), 2);
        due.is("no works", new PigLine().when(0), -2);
        due.is("no finding", x.count(6), 0);
    }

    private static void whenNot() {
        due.sentence("Promise 30: NOT: there is none; BAD ahead of it");
        PigLine x = digs(1, 500, 1, 8, 1);
        whens("none", x, -4, -4, -4);
        due.is("BAD", x.when(3), -2);
        due.is("BAD below", x.when(-1), -2);
        x.yearly(2, 500);
        whens("now there is", x, 1, 2, 1);
    }
}
