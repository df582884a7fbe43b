/** Keeps the answers that were due against those that came; a test ends by end(). */
final class Due {
    private static final int SHOWN_AT_MOST = 40;

    private int checks;
    private int wrong;
    private int sentences;
    private int checksBeforeSentence;
    private String sentence = "";

    /** What is checked from here on is what this sentence of the document says. */
    void sentence(String told) {
        closeSentence();
        sentence = told + " | ";
        sentences++;
        checksBeforeSentence = checks;
    }

    void is(String call, long got, long want) {
        checks++;
        if (got != want) {
            tell(call + " answered " + got + ", due is " + want);
        }
    }

    void holds(String what, boolean so) {
        checks++;
        if (!so) {
            tell("does not hold: " + what);
        }
    }

    int wrong() {
        return wrong;
    }

    void end() {
        closeSentence();
        System.out.println(checks + " checks, " + (sentences > 0 ? sentences + " sentences, " : "") + wrong + " wrong");
        if (wrong != 0 || checks == 0) {
            System.exit(1);
        }
    }

    private void tell(String line) {
        wrong++;
        if (wrong <= SHOWN_AT_MOST) {
            System.out.println(sentence + line);
        }
    }

    private void closeSentence() {
        if (sentences > 0 && checks == checksBeforeSentence) {
            tell("nothing was checked");
        }
    }
}
