/** Keeps the answers that were due against those that came; a test ends by end(). */
final class Due {
    private static final int SHOWN_AT_MOST = 40;

    private int checks;
    private int wrong;

    void is(String call, long got, long want) {
        checks++;
        if (got != want) {
            wrong++;
            if (wrong <= SHOWN_AT_MOST) {
                System.out.println(call + " answered " + got + ", due is " + want);
            }
        }
    }

    void holds(String what, boolean so) {
        checks++;
        if (!so) {
            wrong++;
            if (wrong <= SHOWN_AT_MOST) {
                System.out.println("does not hold: " + what);
            }
        }
    }

    int wrong() {
        return wrong;
    }

    void end() {
        System.out.println(checks + " checks, " + wrong + " wrong");
        if (wrong != 0 || checks == 0) {
            System.exit(1);
        }
    }
}
