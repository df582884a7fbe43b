/** Promises 31 to 33: trap, count, digest. */
public final class TrapTest {
    private static final int KICKER = 0, MAIN = 1, VENT = 2, DOOR = 3;
    private static final Due due = new Due();

    public static void main(String[] args) {
        bad();
        kickerAndMain();
        vent();
        door();
        count();
        digestOfNew();
        digestOfAll();
        digestSeesEach();
        due.end();
    }

    private static void state(String what, PigLine x, int open, int pressed) {
        due.is(what + ": open", x.count(4), open);
        due.is(what + ": pressed", x.count(5), pressed);
    }

    private static void bad() {
        PigLine x = new PigLine();
        int[] none = {-1, 4, 32, Integer.MIN_VALUE, Integer.MAX_VALUE};
        for (int what : none) {
            due.is("trap open " + what, x.trap(what, true), -2);
            due.is("trap shut " + what, x.trap(what, false), -2);
        }
        state("as it was", x, 4, 0);
        due.is("kicker is shut already", x.trap(KICKER, false), 0);
        due.is("main is shut already", x.trap(MAIN, false), 0);
        due.is("vent is open already", x.trap(VENT, true), 0);
        due.is("door is shut already", x.trap(DOOR, false), 0);
        state("as it was", x, 4, 0);
    }

    private static void kickerAndMain() {
        for (int valve = KICKER; valve <= MAIN; valve++) {
            PigLine x = new PigLine();
            due.is("vent is open", x.trap(valve, true), -4);
            state("refused", x, 4, 0);
            due.is("door", x.trap(DOOR, true), 1);
            due.is("door and vent are open", x.trap(valve, true), -4);
            due.is("vent shut", x.trap(VENT, false), 1);
            due.is("door is open", x.trap(valve, true), -4);
            state("refused", x, 8, 0);
            due.is("door shut", x.trap(DOOR, false), 1);
            state("all shut", x, 0, 0);
            due.is("opened", x.trap(valve, true), 1);
            state("pressed", x, 1 << valve, 1);
            due.is("open already", x.trap(valve, true), 0);
            due.is("shut", x.trap(valve, false), 1);
            state("still pressed", x, 0, 1);
            due.is("opened when pressed", x.trap(valve, true), 1);
            due.is("the other one too", x.trap(1 - valve, true), 1);
            state("both", x, 3, 1);
        }
    }

    private static void vent() {
        for (int valve = KICKER; valve <= MAIN; valve++) {
            PigLine x = new PigLine();
            x.trap(VENT, false);
            x.trap(valve, true);
            due.is("vent with valve " + valve, x.trap(VENT, true), -4);
            state("refused", x, 1 << valve, 1);
            x.trap(valve, false);
            due.is("vent", x.trap(VENT, true), 1);
            state("not pressed", x, 4, 0);
            due.is("vent shut", x.trap(VENT, false), 1);
            state("shut does not press", x, 0, 0);
        }
    }

    private static void door() {
        PigLine x = new PigLine();
        due.is("door", x.trap(DOOR, true), 1);
        state("door and vent", x, 12, 0);
        due.is("vent shut under an open door", x.trap(VENT, false), 1);
        due.is("the door is open already", x.trap(DOOR, true), 0);
        due.is("vent open under an open door", x.trap(VENT, true), 1);
        x.trap(VENT, false);
        x.trap(DOOR, false);
        due.is("not with the vent shut", x.trap(DOOR, true), -4);
        state("refused", x, 0, 0);
        x.trap(KICKER, true);
        due.is("not with the kicker", x.trap(DOOR, true), -4);
        x.trap(KICKER, false);
        due.is("never pressed", x.trap(DOOR, true), -4);
        state("refused", x, 0, 1);
        x.trap(VENT, true);
        due.is("vented", x.trap(DOOR, true), 1);
        state("door and vent", x, 12, 0);
    }

    private static void count() {
        PigLine x = new PigLine();
        int[] none = {-1, 7, Integer.MIN_VALUE, Integer.MAX_VALUE};
        for (int what : none) {
            due.is("count " + what, x.count(what), -2);
        }
        x.joint(1);
        x.mark(0, 0, 0, 0, 0);
        x.mark(0, 0, 0, 0, 0);
        for (int i = 0; i < 3; i++) {
            x.mark(1, 0, 0, 0, 0);
        }
        for (int i = 0; i < 4; i++) {
            x.work(1, 1);
        }
        x.trap(DOOR, true);
        int[] told = {1, 2, 3, 4, 12, 0, 0};
        for (int what = 0; what < told.length; what++) {
            due.is("count " + what, x.count(what), told[what]);
        }
        int[][] findings = {{1, x.lose(0)}, {5, x.reel(0, 0, -1)}};
        due.is("NULL", findings[0][1], -11);
        due.is("SIZE", findings[1][1], -15);
        due.is("the latest", x.count(6), 5);
        x.put(0, 0, 0, 0);
        due.is("the latest again", x.count(6), 1);
    }

    private static long mix(long... numbers) {
        long h = 17;
        for (long number : numbers) {
            h = 31 * h + number;
        }
        return h;
    }

    private static void digestOfNew() {
        PigLine x = new PigLine();
        long first = mix(0, 0, 0, 0, 4, 0, 0, 0, 0, 0, 0, 0, 0, 0, 0, 0);
        due.is("digest of a new one", x.digest(), first);
        x.lose(0);
        x.reel(0, 0, -1);
        x.alone(3);
        x.near(3, 3);
        x.costs(3, 3);
        x.tool(3, 3, 3);
        x.yearly(3, 3);
        due.is("findings and settings are no part of it", x.digest(), first);
    }

    private static void digestOfAll() {
        PigLine x = new PigLine();
        int[][] wheels = {{10, -1, 20}, {7, 9}};
        for (int r = 0; r < 2; r++) {
            x.reel(4 * r, 0, wheels[r].length);
            x.reel(4 * r + 3, 0, wheels[r].length);
            for (int i = 0; i < wheels[r].length; i++) {
                x.put(4 * r, 0, i, wheels[r][i]);
            }
        }
        x.put(3, 0, 1, 1);
        x.put(3, 0, 2, 1);
        x.put(7, 0, 0, 1);
        x.joint(25);
        x.mark(0, 21, 1, 2, 3);
        x.mark(0, 90, 7, 5, 6);
        x.mark(1, 0, 11, 9, 8);
        x.work(5, 5);
        x.trap(VENT, false);
        x.trap(MAIN, true);
        due.is("digest of all", x.digest(), mix(
                1, 2, 1, 1, 2, 1,
                3, 1, 40, 2, 20, 20, 105, 21, 1, 2, 3, 1, 0, 90, 7, 5, 6, -1, 1,
                2, 0, 16, 1, 7, 18, 0, 11, 9, 8, 0, 0));
    }

    private static void digestSeesEach() {
        PigLine x = new PigLine();
        long before = x.digest();
        due.is("the same again", x.digest(), before);
        x.mark(1, 5, 5, 5, 5);
        long after = x.digest();
        due.holds("a mark is seen", before != after);
        due.is("refused", x.mark(1, 5, 12, 5, 5), -2);
        due.is("refused", x.trap(DOOR + 1, true), -2);
        due.is("refused", x.trap(KICKER, true), -4);
        due.is("refused", x.joint(0), -2);
        due.is("refused", x.put(0, 0, 0, 9), -11);
        due.is("what is refused changes nothing", x.digest(), after);
    }
}
