import com.sun.management.ThreadMXBean;
import java.lang.management.ManagementFactory;

/** All calls live in one room: an object is small, and no call makes anything more. */
public final class RoomTest {
    private static final long BYTES_OF_AN_OBJECT = 32 * 1024;
    private static final long BYTES_OF_ALL_CALLS = 16 * 1024;

    private static final Due due = new Due();
    private static final ThreadMXBean THREADS = (ThreadMXBean) ManagementFactory.getThreadMXBean();

    public static void main(String[] args) {
        // The first time round classes are loaded, which takes room that is not the program's.
        calls(filled());
        long before = used();
        PigLine line = new PigLine();
        due.holds("an object takes little room", used() - before < BYTES_OF_AN_OBJECT);
        due.is("it is there", line.count(4), 4);
        PigLine full = filled();
        before = used();
        calls(full);
        due.holds("calls take no room", used() - before < BYTES_OF_ALL_CALLS);
        due.end();
    }

    private static long used() {
        return THREADS.getThreadAllocatedBytes(Thread.currentThread().getId());
    }

    private static PigLine filled() {
        PigLine x = new PigLine();
        for (int r = 0; r < 8; r++) {
            x.reel(r, 0, 150);
            x.put(r, 0, 0, 1);
            for (int n = 1; n < 150; n += n) {
                x.copy(r, 0, r, n, Math.min(n, 150 - n));
            }
        }
        for (int i = 0; i < 40; i++) {
            x.joint(1);
            x.mark(0, i / 5, 0, 50, 1);
            x.mark(1, i / 5, 0, 60, 1);
        }
        for (int w = 0; w < 30; w++) {
            x.work(10, 8);
        }
        due.is("60 joints", x.run(0, 3), 60);
        return x;
    }

    private static void calls(PigLine x) {
        for (int i = 0; i < 16; i++) {
            x.reel(7, 0, 150);
            x.lose(7);
            x.run(0, 3);
            x.way(0, i);
            x.felt(0, i, 1);
            x.match(0);
            x.paired(0, i);
            x.about(0, i, 5);
            x.group(0, 0, 4);
            x.pairing(i);
            x.twin(i);
            x.growth(i, 2);
            x.plan();
            x.years();
            x.when(i % 30);
            x.trap(3, i % 2 == 0);
            x.digest();
        }
    }
}
