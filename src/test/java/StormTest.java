import java.util.ArrayList;
import java.util.Arrays;
import java.util.List;

/** Storms of calls, the same at every run: each answer must be that of the Model, and none may throw. */
public final class StormTest {
    private static final int CALLS = 512;
    private static final int[] WILD = {
        Integer.MIN_VALUE, Integer.MIN_VALUE + 1, -1000, -2, -1, 0, 1, 2, 3, 4, 7, 8, 39, 40, 99, 149, 150, 151,
        1000, Integer.MAX_VALUE - 150, Integer.MAX_VALUE - 1, Integer.MAX_VALUE,
    };

    /** A call, how often it comes, and the least and greatest ordinary number of each argument. */
    private record Kind(String name, int weight, int... bounds) { }

    /** Small numbers: like costs, marks close together, joints of no length. */
    private static final Kind[] TIGHT = {
        new Kind("reel", 6, 0, 7, 0, 2, 0, 12), new Kind("lose", 1, 0, 7),
        new Kind("put", 60, 0, 7, 0, 2, 0, 11, -1, 4), new Kind("get", 4, 0, 7, 0, 2, 0, 11),
        new Kind("copy", 8, 0, 7, 0, 6, 0, 7, 0, 6, 0, 6), new Kind("run", 4, 0, 1, 0, 3),
        new Kind("way", 4, 0, 1, 0, 11), new Kind("felt", 4, 0, 1, 0, 5, 0, 1), new Kind("joint", 7, 1, 6),
        new Kind("wipe", 1), new Kind("costs", 2, 0, 4, 0, 4), new Kind("match", 5, 0, 1),
        new Kind("paired", 9, 0, 1, 0, 8), new Kind("mark", 14, 0, 1, 0, 20, 0, 11, 0, 100, 0, 3),
        new Kind("clear", 1, 0, 1), new Kind("about", 6, 0, 1, 0, 12, 0, 5), new Kind("near", 2, 0, 4, 0, 3),
        new Kind("groups", 4, 0, 1), new Kind("group", 6, 0, 1, 0, 5, 0, 4), new Kind("alone", 2, 0, 300),
        new Kind("pairing", 8, 0, 6), new Kind("twin", 9, 0, 12), new Kind("tool", 2, 1, 10, 0, 12, 40, 100),
        new Kind("growth", 9, 0, 12, 0, 2), new Kind("work", 3, 1, 9, 1, 8), new Kind("yearly", 1, 1, 6, 0, 3),
        new Kind("plan", 2), new Kind("years", 2), new Kind("when", 4, 0, 12), new Kind("trap", 9, 0, 3, 0, 1),
        new Kind("count", 9, 0, 6), new Kind("digest", 6),
    };

    /** All that may be told. */
    private static final Kind[] WIDE = {
        new Kind("reel", 6, 0, 7, 0, 2, 0, 150), new Kind("lose", 1, 0, 7),
        new Kind("put", 60, 0, 7, 0, 2, 0, 149, -2000, 33000), new Kind("get", 4, 0, 7, 0, 2, 0, 149),
        new Kind("copy", 30, 0, 7, 0, 75, 0, 7, 0, 75, 0, 75), new Kind("run", 4, 0, 1, 0, 3),
        new Kind("way", 4, 0, 1, 0, 149), new Kind("felt", 4, 0, 1, 0, 60, 0, 1), new Kind("joint", 12, 1, 100000),
        new Kind("wipe", 0), new Kind("costs", 1, 0, 1000000, 0, 1000000), new Kind("match", 4, 0, 1),
        new Kind("paired", 9, 0, 1, 0, 39), new Kind("mark", 20, 0, 1, 0, 4000000, 0, 11, 0, 100, 0, 10000),
        new Kind("clear", 0, 0, 1), new Kind("about", 6, 0, 1, 0, 39, 0, 5), new Kind("near", 2, 0, 100000, 0, 6),
        new Kind("groups", 4, 0, 1), new Kind("group", 6, 0, 1, 0, 20, 0, 4), new Kind("alone", 2, 0, 100000),
        new Kind("pairing", 6, 0, 39), new Kind("twin", 9, 0, 39), new Kind("tool", 2, 1, 50, 0, 50, 0, 100),
        new Kind("growth", 9, 0, 39, 0, 2), new Kind("work", 8, 1, 1000, 1, 8),
        new Kind("yearly", 2, 1, 30, 0, 10000), new Kind("plan", 3), new Kind("years", 3), new Kind("when", 5, 0, 29),
        new Kind("trap", 5, 0, 3, 0, 1), new Kind("count", 9, 0, 6), new Kind("digest", 4),
    };

    private long seed;
    private final Due due = new Due();

    public static void main(String[] args) throws Exception {
        StormTest test = new StormTest();
        for (int storm = 0; storm < 600 && test.due.wrong() == 0; storm++) {
            test.storm(storm, storm % 3 == 2 ? WIDE : TIGHT);
        }
        test.due.end();
    }

    private int next(int low, int high) {
        seed += 0x9E3779B97F4A7C15L;
        long z = (seed ^ seed >>> 30) * 0xBF58476D1CE4E5B9L;
        z = (z ^ z >>> 27) * 0x94D049BB133111EBL;
        return (int) (low + Math.floorMod(z ^ z >>> 31, (long) high - low + 1));
    }

    private void storm(int number, Kind[] kinds) throws Exception {
        seed = 1000003L * number;
        int wildOneIn = number % 2 == 0 ? 60 : 12;
        PigLine line = new PigLine();
        Model model = new Model();
        int calls = 0;
        for (Object[] first : beginning(number, kinds)) {
            calls += call(number, line, model, (String) first[0], (int[]) first[1]);
        }
        while (calls < CALLS) {
            Kind kind = pick(kinds);
            int[] args = new int[kind.bounds.length / 2];
            for (int i = 0; i < args.length; i++) {
                args[i] = next(kind.bounds[2 * i], kind.bounds[2 * i + 1]);
                if (next(1, wildOneIn) == 1) {
                    args[i] = WILD[next(0, WILD.length - 1)];
                }
            }
            calls += call(number, line, model, kind.name, args);
        }
    }

    /** Many storms begin with reels of one form, so that the runs have much to feel. */
    private List<Object[]> beginning(int number, Kind[] kinds) {
        List<Object[]> calls = new ArrayList<>();
        if (number % 4 == 0) {
            return calls;
        }
        int items = kinds == TIGHT ? 12 : next(30, 150);
        int form = next(0, 2);
        for (int r = 0; r < 8; r++) {
            calls.add(new Object[] {"reel", new int[] {r, r % 4 == 3 ? 0 : form, items}});
            for (int i = 0; i < 12; i++) {
                int v = r % 4 == 3 ? next(0, 1) : kinds == TIGHT ? next(-1, 4) : next(-3000, 33000);
                calls.add(new Object[] {"put", new int[] {r, r % 4 == 3 ? 0 : form, i, v}});
            }
            for (int to = 12; to < items; to += to) {
                int n = Math.min(to, items - to);
                calls.add(new Object[] {"copy", new int[] {r, 0, r, to, n}});
            }
        }
        return calls;
    }

    private Kind pick(Kind[] kinds) {
        int sum = 0;
        for (Kind kind : kinds) {
            sum += kind.weight;
        }
        int at = next(1, sum);
        for (Kind kind : kinds) {
            at -= kind.weight;
            if (at <= 0) {
                return kind;
            }
        }
        return kinds[0];
    }

    private int call(int storm, PigLine line, Model model, String name, int[] args) throws Exception {
        String told = "storm " + storm + ": " + name + Arrays.toString(args);
        due.is(told, Calls.answer(line, name, args), Calls.answer(model, name, args));
        return 1;
    }
}
