import java.lang.management.ManagementFactory;

/** All calls of a run live in one room, so calls make no objects and a new object stays small. */
public final class RoomTest {
    private static final int BYTES_OF_ONE = 16_000;

    public static void main(String[] args) {
        Check check = new Check();
        bytesOf(new GrainHost());
        long before = allocated();
        GrainHost x = new GrainHost();
        long made = allocated() - before;
        check.due("a new object is small: " + made, made < BYTES_OF_ONE, true);
        check.due("calls make no objects", bytesOf(x) < 8_000, true);
        check.finish();
    }

    private static long allocated() {
        java.lang.management.ThreadMXBean bean = ManagementFactory.getThreadMXBean();
        return ((com.sun.management.ThreadMXBean) bean).getThreadAllocatedBytes(Thread.currentThread().getId());
    }

    /** How many bytes are made by calls that fill the host, and fail, end and restart all there is. */
    private static long bytesOf(GrainHost x) {
        for (int i = 0; i < 8; i++) {
            x.step(0, 0, Op.TELL, 0, 0);
            x.step(1, 0, i == 7 ? Op.CALL : Op.TELL, 9 + i, 0);
        }
        long before = allocated();
        for (int round = 0; round < 100; round++) {
            x.limits(round % 3, round % 5);
            x.call(round % 32, 0, round);
            x.call(8 + round % 8, 0, round);
            x.run(40);
            x.tick(3);
            x.fails(round % 4);
            if (round % 10 == 9) {
                x.restart();
                x.forget();
            }
            for (int what = 0; what < 10; what++) {
                x.grain(round % 32, what);
                x.request(round % 30, what);
                x.line(what);
                x.count(what);
                x.ask(0, what);
            }
        }
        return allocated() - before;
    }
}
