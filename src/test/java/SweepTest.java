import java.util.Arrays;
import java.util.LinkedHashSet;
import java.util.Set;

/**
 * Every argument of every call at its edges, just beyond them and at the ends of the ints, two
 * arguments at a time: each answer, and what is asked after it, must be that of the Model.
 */
public final class SweepTest {
    private static final int CALLS = 512;
    private static final int CALLS_OF_A_STEP = 8;
    private static final Set<String> CHANGES = Set.of("reel", "lose", "put", "copy", "joint", "wipe", "mark", "clear",
            "near", "work", "trap");
    private static final Set<String> SETTINGS = Set.of("costs", "near", "alone", "tool", "yearly", "work", "joint");

    /** A call, with the least and the greatest number of each argument, where the object is full. */
    private record Kind(String name, int... bounds) { }

    private static final Kind[] KINDS = {
        new Kind("reel", 0, 7, 0, 2, 0, 150), new Kind("lose", 0, 7), new Kind("put", 0, 7, 0, 2, 0, 149, -128, 30000),
        new Kind("get", 0, 7, 0, 2, 0, 149), new Kind("copy", 0, 7, 0, 149, 0, 7, 0, 149, 0, 150),
        new Kind("run", 0, 1, 0, 3), new Kind("way", 0, 1, 0, 149), new Kind("felt", 0, 1, 0, 59, 0, 1),
        new Kind("joint", 1, 100000), new Kind("wipe"), new Kind("costs", 0, 1000000, 0, 1000000),
        new Kind("match", 0, 1), new Kind("paired", 0, 1, 0, 39),
        new Kind("mark", 0, 1, 0, 4000000, 0, 11, 0, 100, 0, 10000), new Kind("clear", 0, 1),
        new Kind("about", 0, 1, 0, 39, 0, 5), new Kind("near", 0, 100000, 0, 6), new Kind("groups", 0, 1),
        new Kind("group", 0, 1, 0, 39, 0, 4), new Kind("alone", 0, 100000), new Kind("pairing", 0, 39),
        new Kind("twin", 0, 39), new Kind("tool", 1, 50, 0, 50, 0, 100), new Kind("growth", 0, 39, 0, 2),
        new Kind("work", 1, 1000, 1, 8), new Kind("yearly", 1, 30, 0, 10000), new Kind("plan"), new Kind("years"),
        new Kind("when", 0, 29), new Kind("trap", 0, 3, 0, 1), new Kind("count", 0, 6), new Kind("digest"),
    };

    private final Due due = new Due();
    private final int size;
    private PigLine line;
    private Model model;
    private int calls;

    private SweepTest(int size) {
        this.size = size;
    }

    public static void main(String[] args) {
        int[] sizes = {0, 1, 3, 40};
        for (int size : sizes) {
            SweepTest test = new SweepTest(size);
            test.begin();
            for (Kind kind : KINDS) {
                test.sweep(kind);
            }
            test.due.end();
        }
    }

    /** A new object with so much of all, at most: 0 is nothing, 40 is all that can be. */
    private void begin() {
        line = new PigLine();
        model = new Model();
        calls = 0;
        if (size == 0) {
            return;
        }
        for (int r = 0; r < 8; r++) {
            int n = size == 40 ? 150 : size;
            tell("reel", r, r % 3, n);
            tell("put", r, r % 3, 0, r % 4 == 3 ? 1 : 20 + r);
            for (int done = 1; done < n; done += done) {
                tell("copy", r, 0, r, done, Math.min(done, n - done));
            }
        }
        for (int i = 0; i < size; i++) {
            tell("joint", 19 + i % 4);
            tell("mark", 0, 33 * i, i % 12, 40, i);
            tell("mark", 1, 34 * i, i % 12, 50, i);
        }
        for (int w = 0; w < Math.min(size, 30); w++) {
            tell("work", 1 + w, 8);
        }
    }

    private void tell(String name, int... args) {
        calls++;
        due.is(size + ": " + name + Arrays.toString(args), Calls.answer(line, name, args),
                Calls.answer(model, name, args));
    }

    private void sweep(Kind kind) {
        int places = kind.bounds.length / 2;
        int[] middle = new int[places];
        for (int p = 0; p < places; p++) {
            middle[p] = p == 1 && kind.name.equals("put") ? 0 : Math.min(size, kind.bounds[2 * p + 1]) / 2;
        }
        if (places < 2) {
            for (int v : places == 0 ? new int[1] : edges(kind, 0)) {
                step(kind.name, places == 0 ? new int[0] : new int[] {v});
            }
        }
        for (int p = 0; p < places; p++) {
            for (int q = p + 1; q < places; q++) {
                sweepTwo(kind, p, q, middle);
            }
        }
    }

    private void sweepTwo(Kind kind, int p, int q, int[] middle) {
        for (int v : edges(kind, p)) {
            for (int w : edges(kind, q)) {
                int[] args = middle.clone();
                args[p] = v;
                args[q] = w;
                step(kind.name, args);
            }
        }
    }

    private int[] edges(Kind kind, int place) {
        int least = kind.bounds[2 * place], most = kind.bounds[2 * place + 1];
        if (kind.name.equals("trap") && place == 1) {
            return new int[] {0, 1};
        }
        Set<Integer> some = new LinkedHashSet<>();
        int[] all = {Integer.MIN_VALUE, least - 1, least, size - 1, size, most, most + 1, Integer.MAX_VALUE};
        for (int v : all) {
            some.add(v);
        }
        return some.stream().mapToInt(Integer::intValue).toArray();
    }

    /** The call, and what shows whether it changed anything. */
    private void step(String name, int... args) {
        if (calls + CALLS_OF_A_STEP > CALLS) {
            begin();
        }
        tell(name, args);
        tell("count", 6);
        if (CHANGES.contains(name)) {
            tell("digest");
        }
        if (SETTINGS.contains(name)) {
            tell("match", 1);
            tell("groups", 0);
            tell("pairing", size / 2);
            tell("growth", size / 2, 2);
            tell("plan");
        }
        boolean takesApart = name.equals("wipe") || name.equals("clear") || name.equals("lose");
        if (takesApart || name.equals("reel")) {
            begin();
        }
    }
}
