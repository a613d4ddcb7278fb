import com.sun.management.ThreadMXBean;
import java.lang.management.ManagementFactory;

/** What calls leave in the room: an object's rows are made once, and its dearest calls make nothing. */
public final class RoomTest {
    private static final int CALLS = 512;
    /** 7.3 million fields and elements of some 4 bytes; less by far is wanted of one run. */
    private static final long MOST_BYTES = 1_000_000;
    private static final ThreadMXBean THREADS = (ThreadMXBean) ManagementFactory.getThreadMXBean();

    public static void main(String[] args) {
        run(10);
        long before = THREADS.getCurrentThreadAllocatedBytes();
        run(CALLS);
        long bytes = THREADS.getCurrentThreadAllocatedBytes() - before;
        Due.is(1, "a run leaves room (" + bytes + " bytes)", bytes < MOST_BYTES ? 1 : 0, 1);
        Due.end();
    }

    /** Five dear calls, so many times, and towns read anew. */
    private static void run(int times) {
        BackwardYears x = Due.town("ma;d0 b1 1;d1a c2 2;d6 a1 3;d7 d1 4;d4e f3 5;d0b e1 0;d0 g1 1;n1 +1;c9999;");
        x.image();
        Due.row(x, 6, Due.INTS, 5, 4, 3, 2, 1, 0, -1, -2, 3, 4);
        Due.list(x, 1, 0, 1, 2, 3, 4, 5, 6, 6);
        Due.list(x, 2, 0, 1, 2, 3, 4);
        for (int i = 0; i < times; i++) {
            x.least(1, 1, 0);
            x.two(1, 1, 255, 255, 0);
            x.seeded(30, i, 0);
            x.restore();
            x.town(0);
            if (i % 16 == 0) {
                x.free(2, 3, 0);
                x.plan(2, 6, 0);
            }
        }
    }
}
