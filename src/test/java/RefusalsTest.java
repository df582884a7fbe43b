import java.util.ArrayList;
import java.util.Arrays;
import java.util.List;

/**
 * 'They change nothing (FINDINGS but count() 6)': each refused call is made on an object of its own,
 * and all that can be asked of it is compared with what a like object answers without that call.
 */
public final class RefusalsTest {
    private static final int LEAST = Lines.LEAST, MOST = Lines.MOST;
    private static final int BAD = -2, FULL = -3, NOT = -4, NULL = -11, INDEX = -12, CAST = -13, STORE = -14, SIZE = -15;
    private static final Due due = new Due();

    /** A call that is refused, and how. */
    private record Refused(long answer, String name, int... args) { }

    private static final Refused[] OF_SOME = {
        new Refused(BAD, "reel", -1, 0, 3), new Refused(BAD, "reel", 8, 0, 3), new Refused(BAD, "reel", 0, -1, 3),
        new Refused(BAD, "reel", 0, 3, 3), new Refused(BAD, "reel", 0, 2, 151), new Refused(SIZE, "reel", 0, 2, -1),
        new Refused(SIZE, "reel", 5, 1, LEAST), new Refused(BAD, "lose", -1), new Refused(BAD, "lose", 8),
        new Refused(NULL, "lose", 5), new Refused(BAD, "put", 8, 0, 0, 9), new Refused(BAD, "put", 0, 3, 0, 9),
        new Refused(NULL, "put", 5, 0, 0, 9), new Refused(CAST, "put", 0, 1, 0, 9),
        new Refused(INDEX, "put", 0, 2, 3, 9), new Refused(INDEX, "put", 0, 2, -1, 9),
        new Refused(INDEX, "put", 6, 0, 0, 9), new Refused(LEAST, "get", 8, 0, 0), new Refused(LEAST, "get", 0, 3, 0),
        new Refused(LEAST, "get", 5, 0, 0), new Refused(LEAST, "get", 0, 1, 0), new Refused(LEAST, "get", 0, 2, 3),
        new Refused(BAD, "copy", 8, 0, 0, 0, 1), new Refused(BAD, "copy", 0, 0, -1, 0, 1),
        new Refused(NULL, "copy", 0, 0, 5, 0, 1), new Refused(NULL, "copy", 5, 0, 0, 0, 1),
        new Refused(STORE, "copy", 0, 0, 1, 0, 1), new Refused(INDEX, "copy", 0, 1, 4, 0, 3),
        new Refused(INDEX, "copy", 0, 0, 4, 1, 3), new Refused(INDEX, "copy", 0, -1, 4, 0, 1),
        new Refused(INDEX, "copy", 0, 0, 4, -1, 1), new Refused(INDEX, "copy", 0, 0, 4, 0, -1),
        new Refused(INDEX, "copy", 0, 2, 4, 0, MOST),
        new Refused(BAD, "run", 2, 0), new Refused(BAD, "run", 0, 4), new Refused(BAD, "way", 2, 0),
        new Refused(BAD, "way", 0, 3), new Refused(BAD, "felt", 2, 0, 0), new Refused(BAD, "felt", 0, 3, 0),
        new Refused(BAD, "felt", 0, 0, 2),
        new Refused(BAD, "joint", 0), new Refused(BAD, "joint", 100001), new Refused(BAD, "costs", -1, 7),
        new Refused(BAD, "costs", 7, -1), new Refused(BAD, "costs", 1000001, 7), new Refused(BAD, "costs", 7, 1000001),
        new Refused(BAD, "match", 2), new Refused(BAD, "paired", 2, 0), new Refused(BAD, "paired", 0, 3),
        new Refused(BAD, "mark", 2, 1, 1, 1, 1), new Refused(BAD, "mark", 0, -1, 1, 1, 1),
        new Refused(BAD, "mark", 0, 4000001, 1, 1, 1), new Refused(BAD, "mark", 1, 1, -1, 1, 1),
        new Refused(BAD, "mark", 1, 1, 12, 1, 1), new Refused(BAD, "mark", 0, 1, 1, -1, 1),
        new Refused(BAD, "mark", 0, 1, 1, 101, 1), new Refused(BAD, "mark", 1, 1, 1, 1, -1),
        new Refused(BAD, "mark", 1, 1, 1, 1, 10001), new Refused(BAD, "clear", -1), new Refused(BAD, "clear", 2),
        new Refused(BAD, "about", 2, 0, 0), new Refused(BAD, "about", 0, 5, 5), new Refused(BAD, "about", 0, 0, 6),
        new Refused(BAD, "near", -1, 6), new Refused(BAD, "near", 100001, 0), new Refused(BAD, "near", 0, -1),
        new Refused(BAD, "near", 100000, 7), new Refused(BAD, "groups", 2), new Refused(BAD, "group", 2, 0, 0),
        new Refused(BAD, "group", 0, 4, 0), new Refused(BAD, "group", 0, 0, 5),
        new Refused(BAD, "alone", -1), new Refused(BAD, "alone", 100001), new Refused(BAD, "pairing", 3),
        new Refused(BAD, "twin", 5), new Refused(BAD, "tool", 0, 7, 7), new Refused(BAD, "tool", 51, 7, 7),
        new Refused(BAD, "tool", 7, -1, 7), new Refused(BAD, "tool", 7, 51, 7), new Refused(BAD, "tool", 7, 7, -1),
        new Refused(BAD, "tool", 7, 7, 101), new Refused(BAD, "growth", 5, 0), new Refused(BAD, "growth", 0, 3),
        new Refused(NOT, "growth", 3, 0),
        new Refused(BAD, "work", 0, 1), new Refused(BAD, "work", 1001, 1), new Refused(BAD, "work", 1, 0),
        new Refused(BAD, "work", 1, 9), new Refused(BAD, "yearly", 0, 7), new Refused(BAD, "yearly", 31, 7),
        new Refused(BAD, "yearly", 30, -1), new Refused(BAD, "yearly", 30, 10001), new Refused(BAD, "when", 5),
        new Refused(BAD, "trap", 4, 1), new Refused(BAD, "trap", -1, 0), new Refused(NOT, "trap", 0, 1),
        new Refused(NOT, "trap", 1, 1), new Refused(BAD, "count", 7), new Refused(BAD, "count", -1),
    };

    private static final Refused[] OF_FULL = {
        new Refused(FULL, "joint", 7), new Refused(FULL, "mark", 0, 7, 7, 7, 7), new Refused(FULL, "mark", 1, 7, 7, 7, 7),
        new Refused(FULL, "work", 7, 1), new Refused(BAD, "joint", 0), new Refused(BAD, "mark", 0, 7, 12, 7, 7),
        new Refused(BAD, "work", 7, 9), new Refused(NOT, "plan"), new Refused(NOT, "years"), new Refused(NOT, "when", 0),
        new Refused(NOT, "growth", 0, 0), new Refused(NOT, "trap", 2, 1), new Refused(NOT, "trap", 3, 1),
    };

    public static void main(String[] args) {
        due.sentence("Refusals: they change nothing (FINDINGS but count() 6), in an object with some of all");
        List<Long> some = allOf(some(), true);
        for (Refused refused : OF_SOME) {
            PigLine x = some();
            long finding = ask(x, refused);
            same(refused, finding, some, allOf(x, true));
        }
        due.sentence("Refusals: they change nothing, in an object that is full");
        List<Long> full = allOf(full(), false);
        for (Refused refused : OF_FULL) {
            PigLine x = full();
            long finding = ask(x, refused);
            same(refused, finding, full, allOf(x, false));
        }
        due.end();
    }

    /** Makes the call; what count() 6 must tell after it, 0 where it was no FINDING. */
    private static long ask(PigLine x, Refused refused) {
        due.is(told(refused), Calls.answer(x, refused.name, refused.args), refused.answer);
        if (refused.name.equals("get") && refused.args[0] < 8 && refused.args[1] < 3) {
            return refused.args[0] == 5 ? 1 : refused.args[1] == 2 ? 2 : 3;
        }
        return refused.answer <= NULL && refused.answer != LEAST ? -10 - refused.answer : 0;
    }

    private static String told(Refused refused) {
        return refused.name + Arrays.toString(refused.args);
    }

    private static void same(Refused refused, long finding, List<Long> before, List<Long> after) {
        due.is(told(refused) + ": count 6", after.get(0), finding);
        due.is(told(refused) + ": as many answers", after.size(), before.size());
        for (int i = 1; i < Math.min(before.size(), after.size()); i++) {
            due.is(told(refused) + ": answer " + i, after.get(i), before.get(i));
        }
    }

    /** Every setting shows: something is missed, extra, just NEAR, alone, grown, and in a second YEAR. */
    private static PigLine some() {
        PigLine x = Lines.book(1000, 2000, 90000);
        Lines.fill(x, 0, 2, 1000, 2000, 500);
        Lines.fill(x, 1, 1, 900, -1, 30001);
        Lines.fill(x, 3, 0, 1, 1, 1);
        Lines.fill(x, 4, 2, 1010, 2000, 5000);
        x.reel(6, 0, 0);
        Lines.fill(x, 7, 0, 1, -1, 1);
        int[][] marks = {{10, 0, 20, 0}, {20, 1, 30, 0}, {15, 6, 40, 2}, {2500, 0, 50, 3}, {3600, 0, 60, 4}};
        for (int[] m : marks) {
            x.mark(0, m[0], m[1], m[2], m[3]);
        }
        x.mark(1, 12, 0, 50, 0);
        x.mark(1, 30, 1, 45, 0);
        x.mark(1, 1500, 9, 45, 0);
        Lines.works(x, 5, 10, 8);
        x.trap(3, true);
        return x;
    }

    /** As much as can be of all, more WORKS than can be done, the TRAP PRESSED with KICKER open. */
    private static PigLine full() {
        PigLine x = new PigLine();
        for (int r = 0; r < 2; r++) {
            Lines.fillAlike(x, 4 * r, 0, 150, 50);
            Lines.fillAlike(x, 4 * r + 3, 0, 150, 1);
        }
        for (int i = 0; i < 40; i++) {
            x.joint(50);
            x.mark(0, 60 * i, i % 12, i, i);
            x.mark(1, 61 * i, i % 12, i, i);
        }
        Lines.works(x, 30, 10, 1);
        x.trap(2, false);
        x.trap(0, true);
        return x;
    }

    private static void add(List<Long> answers, PigLine x, String name, int... args) {
        answers.add(Calls.answer(x, name, args));
    }

    /** All that can be asked; count() 6 is the first answer. What is asked last takes the object apart. */
    private static List<Long> allOf(PigLine x, boolean isSmall) {
        List<Long> answers = new ArrayList<>();
        for (int what = 6; what >= 0; what--) {
            add(answers, x, "count", what);
        }
        String[] whole = {"digest", "plan", "years"};
        for (String name : whole) {
            add(answers, x, name);
        }
        int joints = x.count(0), works = x.count(3);
        for (int r = 0; r < 2; r++) {
            add(answers, x, "match", r);
            add(answers, x, "groups", r);
            for (int j = 0; j < joints; j++) {
                add(answers, x, "paired", r, j);
            }
        }
        for (int w = 0; w < works; w++) {
            add(answers, x, "when", w);
        }
        if (isSmall) {
            addMore(answers, x);
        }
        return answers;
    }

    private static void addMore(List<Long> answers, PigLine x) {
        for (int r = 0; r < 2; r++) {
            for (int t = 0; t < 3; t++) {
                add(answers, x, "way", r, t);
                add(answers, x, "felt", r, t, 0);
                add(answers, x, "felt", r, t, 1);
                add(answers, x, "pairing", t);
            }
            for (int g = 0; g < x.groups(r); g++) {
                for (int what = 0; what <= 4; what++) {
                    add(answers, x, "group", r, g, what);
                }
            }
        }
        for (int m = 0; m < x.count(1); m++) {
            add(answers, x, "twin", m);
            for (int what = 0; what <= 2; what++) {
                add(answers, x, "growth", m, what);
            }
        }
        addReels(answers, x);
        add(answers, x, "alone", 0);
    }

    /** No item is asked for where there is none, so that count() 6 tells of LOST and of each FORM. */
    private static void addReels(List<Long> answers, PigLine x) {
        for (int r = 0; r < 8; r++) {
            for (int form = 0; form <= 2; form++) {
                x.get(r, form, -1);
                add(answers, x, "count", 6);
                for (int i = 0; i < 3; i++) {
                    add(answers, x, "get", r, form, i);
                }
            }
            add(answers, x, "lose", r);
        }
    }
}
