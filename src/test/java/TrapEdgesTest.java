/** The boundary sentences of the document on TRAPS, counts and the digest (promises 31 to 33). */
public final class TrapEdgesTest {
    private static final int LEAST = Lines.LEAST, MOST = Lines.MOST;
    private static final int KICKER = 0, MAIN = 1, VENT = 2, DOOR = 3;
    private static final Due due = new Due();

    public static void main(String[] args) {
        atFirst();
        trapRefusals();
        soAlready();
        valvesWantTheVentShut();
        valvesWantTheDoorShut();
        valvesPress();
        ventWantsValvesShut();
        ventRelieves();
        doorWantsNoPressure();
        doorWantsTheVent();
        shuttingAlways();
        allStates();
        openBits();
        countRefusals();
        latestFinding();
        whatIsNoFinding();
        digestOfNew();
        digestOfMarksAndJoints();
        digestOfMuch();
        lastCalls();
        due.end();
    }

    private static void state(String what, PigLine x, int open, int pressed) {
        due.is(what + ": open", x.count(4), open);
        due.is(what + ": pressed", x.count(5), pressed);
    }

    private static PigLine shut() {
        PigLine x = new PigLine();
        x.trap(VENT, false);
        return x;
    }

    /** All shut, and PRESSED. */
    private static PigLine pressed() {
        PigLine x = shut();
        x.trap(KICKER, true);
        x.trap(KICKER, false);
        return x;
    }

    private static void atFirst() {
        due.sentence("Terms: all shut at first but the VENT, which is open; PRESSED or not (not at first)");
        state("new", new PigLine(), 4, 0);
        for (int what = KICKER; what <= DOOR; what++) {
            due.is("shutting " + what, new PigLine().trap(what, false), what == VENT ? 1 : 0);
        }
    }

    private static void trapRefusals() {
        due.sentence("Promise 31: BAD");
        PigLine x = new PigLine();
        int[] none = {-1, 4, 5, 32, 34, LEAST, MOST};
        for (int what : none) {
            due.is("opening " + what, x.trap(what, true), -2);
            due.is("shutting " + what, x.trap(what, false), -2);
        }
        state("as it was", x, 4, 0);
        due.is("no finding", x.count(6), 0);
    }

    private static void soAlready() {
        due.sentence("Promise 31: 0: it is so already");
        PigLine x = new PigLine();
        due.is("VENT is open", x.trap(VENT, true), 0);
        due.is("KICKER is shut", x.trap(KICKER, false), 0);
        due.is("MAIN is shut", x.trap(MAIN, false), 0);
        due.is("DOOR is shut", x.trap(DOOR, false), 0);
        state("as it was", x, 4, 0);
        due.is("DOOR", x.trap(DOOR, true), 1);
        due.is("DOOR is open", x.trap(DOOR, true), 0);
        state("as it was", x, 12, 0);
        x = shut();
        due.is("VENT is shut", x.trap(VENT, false), 0);
        for (int valve = KICKER; valve <= MAIN; valve++) {
            due.is("opened", x.trap(valve, true), 1);
            due.is("it is open", x.trap(valve, true), 0);
        }
        state("as it was", x, 3, 1);
        // Nothing is opened here, so that nothing need be refused.
        x = new PigLine();
        x.trap(DOOR, true);
        x.trap(VENT, false);
        due.is("the DOOR is open, though the VENT is shut", x.trap(DOOR, true), 0);
        state("as it was", x, 8, 0);
    }

    private static void valvesWantTheVentShut() {
        due.sentence("Terms: opening KICKER or MAIN: the VENT must be shut");
        for (int valve = KICKER; valve <= MAIN; valve++) {
            PigLine x = new PigLine();
            due.is("VENT is open", x.trap(valve, true), -4);
            state("refused", x, 4, 0);
            x.trap(VENT, false);
            due.is("VENT is shut", x.trap(valve, true), 1);
        }
    }

    private static void valvesWantTheDoorShut() {
        due.sentence("Terms: opening KICKER or MAIN: the DOOR must be shut");
        for (int valve = KICKER; valve <= MAIN; valve++) {
            PigLine x = new PigLine();
            x.trap(DOOR, true);
            due.is("both are open", x.trap(valve, true), -4);
            state("refused", x, 12, 0);
            x.trap(VENT, false);
            due.is("the DOOR is open", x.trap(valve, true), -4);
            state("refused", x, 8, 0);
            x.trap(DOOR, false);
            due.is("both are shut", x.trap(valve, true), 1);
        }
    }

    private static void valvesPress() {
        due.sentence("Terms: opening KICKER or MAIN: it is PRESSED then");
        for (int valve = KICKER; valve <= MAIN; valve++) {
            PigLine x = shut();
            state("all shut", x, 0, 0);
            due.is("opened", x.trap(valve, true), 1);
            state("PRESSED", x, 1 << valve, 1);
            due.is("the other one", x.trap(1 - valve, true), 1);
            state("PRESSED", x, 3, 1);
            due.is("shut", x.trap(valve, false), 1);
            due.is("shut", x.trap(1 - valve, false), 1);
            state("PRESSED still", x, 0, 1);
        }
    }

    private static void ventWantsValvesShut() {
        due.sentence("Terms: opening the VENT: KICKER and MAIN must be shut");
        for (int valve = KICKER; valve <= MAIN; valve++) {
            PigLine x = shut();
            x.trap(valve, true);
            due.is("one is open", x.trap(VENT, true), -4);
            state("refused", x, 1 << valve, 1);
            x.trap(1 - valve, true);
            due.is("both are open", x.trap(VENT, true), -4);
            state("refused", x, 3, 1);
            x.trap(valve, false);
            due.is("the other one is open", x.trap(VENT, true), -4);
            x.trap(1 - valve, false);
            due.is("both are shut", x.trap(VENT, true), 1);
        }
    }

    private static void ventRelieves() {
        due.sentence("Terms: opening the VENT: it is not PRESSED then");
        PigLine x = pressed();
        state("PRESSED", x, 0, 1);
        due.is("VENT", x.trap(VENT, true), 1);
        state("not PRESSED", x, 4, 0);
        due.is("VENT shut", x.trap(VENT, false), 1);
        state("shutting does not press", x, 0, 0);
        due.is("VENT again, not PRESSED", x.trap(VENT, true), 1);
        state("not PRESSED", x, 4, 0);
    }

    private static void doorWantsNoPressure() {
        due.sentence("Terms: opening the DOOR: not PRESSED");
        for (int valve = KICKER; valve <= MAIN; valve++) {
            PigLine x = shut();
            x.trap(valve, true);
            due.is("a valve is open", x.trap(DOOR, true), -4);
            x.trap(valve, false);
            due.is("PRESSED still", x.trap(DOOR, true), -4);
            state("refused", x, 0, 1);
            x.trap(VENT, true);
            due.is("not PRESSED", x.trap(DOOR, true), 1);
            state("opening the DOOR presses nothing", x, 12, 0);
        }
    }

    private static void doorWantsTheVent() {
        due.sentence("Terms: opening the DOOR: the VENT open");
        PigLine x = shut();
        due.is("the VENT is shut", x.trap(DOOR, true), -4);
        state("refused", x, 0, 0);
        x.trap(VENT, true);
        due.is("the VENT is open", x.trap(DOOR, true), 1);
        state("opened", x, 12, 0);
    }

    private static void shuttingAlways() {
        due.sentence("Terms: shutting: always");
        PigLine x = new PigLine();
        x.trap(DOOR, true);
        due.is("the VENT under an open DOOR", x.trap(VENT, false), 1);
        due.is("the DOOR with the VENT shut", x.trap(DOOR, false), 1);
        x.trap(KICKER, true);
        x.trap(MAIN, true);
        due.is("KICKER", x.trap(KICKER, false), 1);
        due.is("MAIN", x.trap(MAIN, false), 1);
        state("all shut, PRESSED", x, 0, 1);
        x.trap(VENT, true);
        due.is("the VENT", x.trap(VENT, false), 1);
        state("all shut", x, 0, 0);
    }

    /** The TRAP once more, as the document tells it, on its state of four bits and PRESSED above them. */
    private static int after(int state, int what, boolean open) {
        boolean kickerOrMain = (state & 3) != 0, vent = (state & 4) != 0, door = (state & 8) != 0;
        boolean isPressed = (state & 16) != 0;
        if (((state >> what & 1) != 0) == open) {
            return 0;
        }
        if (!open) {
            return state & ~(1 << what) | 1 << 20;
        }
        if (what <= MAIN) {
            return door || vent ? -4 : state | 1 << what | 16 | 1 << 20;
        }
        if (what == VENT) {
            return kickerOrMain ? -4 : (state | 4) & ~16 | 1 << 20;
        }
        return isPressed || !vent ? -4 : state | 8 | 1 << 20;
    }

    private static void allStates() {
        due.sentence("Terms: what may not be is refused NOT");
        // All 8 to the fourth ways of making four moves, and every move after them.
        for (int moves = 0; moves < 1 << 12; moves++) {
            PigLine x = new PigLine();
            int state = 4;
            for (int i = 0; i < 5; i++) {
                int what = moves >> 3 * i & 3;
                boolean open = (moves >> 3 * i & 4) != 0;
                for (int last = 0; i == 4 && last < 8; last++) {
                    state = move(x, state, last & 3, last < 4);
                }
                state = i < 4 ? move(x, state, what, open) : state;
            }
        }
    }

    private static int move(PigLine x, int state, int what, boolean open) {
        int next = after(state, what, open);
        boolean moved = next >= 1 << 20;
        due.is("trap " + what + " " + open + " in state " + state, x.trap(what, open), moved ? 1 : next);
        int now = moved ? next & 31 : state;
        state("after it", x, now & 15, now >> 4);
        return now;
    }

    private static void openBits() {
        due.sentence("Promise 32: 4 what is open of the TRAP as bits (KICKER bit 0)");
        PigLine x = shut();
        due.is("none", x.count(4), 0);
        x.trap(KICKER, true);
        due.is("KICKER", x.count(4), 1);
        x.trap(MAIN, true);
        due.is("both", x.count(4), 3);
        x.trap(KICKER, false);
        due.is("MAIN", x.count(4), 2);
        x.trap(MAIN, false);
        x.trap(VENT, true);
        due.is("VENT", x.count(4), 4);
        x.trap(DOOR, true);
        due.is("VENT and DOOR", x.count(4), 12);
        x.trap(VENT, false);
        due.is("DOOR", x.count(4), 8);
    }

    private static void countRefusals() {
        due.sentence("Promise 32: BAD");
        PigLine x = new PigLine();
        int[] none = {-1, 7, 8, LEAST, MOST};
        for (int what : none) {
            due.is("count " + what, x.count(what), -2);
        }
        due.is("no finding", x.count(6), 0);
    }

    private static void latestFinding() {
        due.sentence("Promise 32: 6 the number of the latest FINDING (0 before any)");
        PigLine x = new PigLine();
        due.is("before any", x.count(6), 0);
        x.reel(0, 0, -1);
        due.is("SIZE", x.count(6), 5);
        x.lose(0);
        due.is("NULL", x.count(6), 1);
        x.reel(0, 0, 1);
        due.is("what goes well leaves it", x.count(6), 1);
        x.put(0, 0, 1, 0);
        due.is("INDEX", x.count(6), 2);
        x.put(0, 1, 0, 0);
        due.is("CAST", x.count(6), 3);
        x.reel(1, 1, 1);
        x.copy(0, 0, 1, 0, 1);
        due.is("STORE", x.count(6), 4);
        x.get(0, 0, 1);
        due.is("INDEX of a get", x.count(6), 2);
        x.get(0, 0, 0);
        due.is("a get that goes well leaves it", x.count(6), 2);
        due.is("counting leaves it", x.count(6), 2);
    }

    private static void whatIsNoFinding() {
        due.sentence("Terms: BAD, FULL and NOT are no FINDINGS");
        PigLine x = new PigLine();
        x.lose(0);
        due.is("BAD", x.reel(8, 0, 0), -2);
        due.is("NULL stays", x.count(6), 1);
        Lines.works(x, 30, 1, 1);
        due.is("FULL", x.work(1, 1), -3);
        due.is("NULL stays", x.count(6), 1);
        due.is("NOT", x.plan(), -4);
        due.is("NULL stays", x.count(6), 1);
        due.is("0", x.trap(VENT, true), 0);
        due.is("NULL stays", x.count(6), 1);
    }

    private static long mix(long... numbers) {
        long h = 17;
        for (long number : numbers) {
            h = 31 * h + number;
        }
        return h;
    }

    private static void digestOfNew() {
        due.sentence("Promise 33: the digest of a new object; as longs that wrap");
        PigLine x = new PigLine();
        due.is("digest", x.digest(), mix(0, 0, 0, 0, 4, 0, 0, 0, 0, 0, 0, 0, 0, 0, 0, 0));
        x.reel(0, 0, -1);
        due.is("a finding is no part of it", x.digest(), mix(0, 0, 0, 0, 4, 0, 0, 0, 0, 0, 0, 0, 0, 0, 0, 0));
    }

    private static void digestOfMarksAndJoints() {
        due.sentence("Promise 33: each FELT JOINT's LENGTH, match(), of each MARK about() 0 to 5, of both RUNS");
        PigLine x = Lines.book(10);
        Lines.feel(x, 0, 0, 12);
        x.mark(0, 12, 1, 2, 3);
        x.mark(1, 4000000, 11, 100, 10000);
        x.mark(1, 0, 0, 0, 0);
        due.is("digest", x.digest(), mix(
                1, 1, 2, 0, 4, 0,
                2, 0, 12, 2, 0, 12, 102, 12, 1, 2, 3, -1, 0,
                0, 0, 0, 0, 100, 4000000, 11, 100, 10000, -1, 0, 0, 0, 0, 0, -1, 1));
    }

    private static void digestOfMuch() {
        due.sentence("Promise 33: the digest where all is full");
        PigLine x = new PigLine();
        long[] all = new long[6 + 2 * (4 + 60 + 1 + 240)];
        for (int r = 0; r < 2; r++) {
            Lines.fillAlike(x, 4 * r, 0, 150, 1);
            Lines.fillAlike(x, 4 * r + 3, 0, 150, 1);
        }
        for (int i = 0; i < 40; i++) {
            x.joint(1);
            x.mark(0, 100 * i, 0, 0, 0);
            x.mark(1, 100 * i, 0, 0, 0);
        }
        Lines.works(x, 30, 1, 8);
        int n = 0;
        long[] counts = {40, 40, 40, 30, 4, 0};
        for (long count : counts) {
            all[n++] = count;
        }
        for (int r = 0; r < 2; r++) {
            long[] run = {150, 0, 150, 60};
            for (long fact : run) {
                all[n++] = fact;
            }
            for (int j = 0; j < 60; j++) {
                all[n++] = 1;
            }
            all[n++] = 2000;
            for (int m = 0; m < 40; m++) {
                long[] mark = {100 * m, 0, 0, 0, m == 0 ? 0 : -1, m};
                for (long fact : mark) {
                    all[n++] = fact;
                }
            }
        }
        due.is("all of it", n, all.length);
        due.is("digest", x.digest(), mix(all));
    }

    private static void lastCalls() {
        due.sentence("An object is used for at most 512 calls: the last of them are answered as the first");
        PigLine x = new PigLine();
        for (int call = 0; call < 508; call += 2) {
            due.is("shut", x.trap(VENT, false), 1);
            due.is("open", x.trap(VENT, true), 1);
        }
        due.is("the 509th", x.joint(5), 0);
        due.is("the 510th", x.lose(0), -11);
        due.is("the 511th", x.match(0), 100);
        due.is("the 512th", x.digest(), mix(1, 0, 0, 0, 4, 0, 0, 0, 0, 0, 100, 0, 0, 0, 0, 100));
    }
}
