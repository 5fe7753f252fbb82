import java.lang.management.ManagementFactory;

/**
 * All calls of a run live in one room of 600,000 objects and 7.3 million fields and elements: 512
 * calls, the dearest that there are, stay far below that. Bytes are what can be measured here.
 */
public final class RoomTest {
    private static final int BYTES_OF_ONE = 64_000, BYTES_OF_A_RUN = 7_300_000;

    public static void main(String[] args) {
        Check check = new Check();
        bytesOfARun(new GrainHost());
        long before = allocated();
        GrainHost x = new GrainHost();
        long made = allocated() - before;
        check.due("a new object is small: " + made, made < BYTES_OF_ONE, true);
        long run = bytesOfARun(x);
        check.due("a run is small: " + run, run < BYTES_OF_A_RUN, true);
        check.finish();
    }

    private static long allocated() {
        java.lang.management.ThreadMXBean bean = ManagementFactory.getThreadMXBean();
        return ((com.sun.management.ThreadMXBean) bean).getThreadAllocatedBytes(Thread.currentThread().getId());
    }

    /** How many bytes are made by 512 calls that fill the host, and fail, end and restart all there is. */
    private static long bytesOfARun(GrainHost x) {
        for (int i = 0; i < 8; i++) {
            x.step(0, 0, Op.TELL, 0, 0);
            x.step(1, 0, i == 7 ? Op.CALL : Op.TELL, 9 + i, 0);
        }
        long before = allocated();
        for (int round = 0; round < 62; round++) {
            x.limits(round % 3, round % 5);
            x.call(round % 32, 0, round);
            x.call(8 + round % 8, 0, round);
            x.run(40);
            x.run(40);
            x.tick(20);
            if (round % 5 == 4) {
                x.restart();
            } else {
                x.fails(round % 4);
            }
            x.forget();
        }
        return allocated() - before;
    }
}
