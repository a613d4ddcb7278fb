import com.sun.management.ThreadMXBean;
import java.lang.management.ManagementFactory;

/** What a run's calls leave in the room: an object's rows are made once, and its dearest calls make nothing. */
public final class RoomTest {
    private static final int CALLS = 512;
    /** 7.3 million fields and elements of some 4 bytes; less by far is wanted of one run. */
    private static final long MOST_BYTES = 1_000_000;
    private static final ThreadMXBean THREADS = (ThreadMXBean) ManagementFactory.getThreadMXBean();
    private static final int KINDS = 8;

    public static void main(String[] args) {
        for (int kind = 0; kind < KINDS; kind++) {
            run(kind);
            long before = THREADS.getCurrentThreadAllocatedBytes();
            run(kind);
            long bytes = THREADS.getCurrentThreadAllocatedBytes() - before;
            Due.is(1, "a run of kind " + kind + " leaves room (" + bytes + " bytes)", bytes < MOST_BYTES ? 1 : 0, 1);
        }
        Due.end();
    }

    /** One object, one dear call (or one that makes deeds) again and again, 512 calls in all. */
    private static void run(int kind) {
        String text = "ma;d0 b1 1;d1a c2 2;d6 a1 3;d7 d1 4;d4e f3 5;d0b e1 0;d0 g1 1;n1 +1;c9999;";
        BackwardYears x = new BackwardYears();
        x.image();
        Due.read(x, text);
        Due.row(x, 6, Due.INTS, 5, 4, 3, 2, 1, 0, -1, -2, 3, 4);
        Due.list(x, 1, 0, 1, 2, 3, 4, 5, 6, 6);
        Due.list(x, 2, 0, 1, 2, 3, 4);
        x.keep(3, 1, 4);
        int made = 1 + text.length() + 2 + 11 + 9 + 6 + 1;
        for (int i = 0; i < CALLS - made; i++) {
            ask(x, kind, i);
        }
    }

    private static void ask(BackwardYears x, int kind, int i) {
        switch (kind) {
            case 0 -> x.least(1, 1, 0);
            case 1 -> x.free(2, 3, 0);
            case 2 -> x.plan(2, 6, 0);
            case 3 -> x.two(1, 1, 255, 255, 0);
            case 4 -> x.seeded(30, i, 0);
            case 5 -> x.toss(3);
            case 6 -> x.row(4, i % 3, 100);
            default -> {
                // The deeds of each text come anew.
                int answer = i % 2 == 0 ? x.restore() : x.town(0);
                Due.is(2, "restored or read", answer < 0 ? -1 : 0, 0);
            }
        }
    }
}
