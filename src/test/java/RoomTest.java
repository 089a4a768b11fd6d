import java.lang.management.ManagementFactory;

/** All calls of one run live in one room, so what they make is measured: 7.3 million fields and elements, no more. */
public final class RoomTest {
    private static final long OBJECT_BYTES = 40_000;
    private static final long RUN_BYTES = 400_000;
    private static final com.sun.management.ThreadMXBean THREADS =
        (com.sun.management.ThreadMXBean) ManagementFactory.getThreadMXBean();

    private static long sum = 0;

    public static void main(String[] args) {
        warmUp();
        newObjects();
        dearCalls();
        Check.holds("the answers were asked for", sum != 0);
        Check.end();
    }

    private static long made() {
        return THREADS.getThreadAllocatedBytes(Thread.currentThread().getId());
    }

    private static void warmUp() {
        sum += Check.row("p1(t1t1o").digest() + made();
    }

    private static void newObjects() {
        long before = made();
        for (int i = 0; i < 512; i++) {
            sum += new HandCensus().count(0) + 1;
        }
        long each = (made() - before) / 512;
        Check.holds("a new object makes " + each + " bytes", each <= OBJECT_BYTES);
    }

    // Rings within rings, all of them quick: the squeeze never ends, and all is asked anew with each setting.
    private static void dearCalls() {
        HandCensus x = Check.row("p1(t1t1o(t1t1o(t1t1o(t1t1o(t1t1o(t1t1o(t1t1o(t1t1o(t1t1op1");
        Check.due("fault()", x.fault(), -1);
        long before = made();
        for (int i = 0; i < 200; i++) {
            x.set(0, i % 20);
            sum += x.digest();
        }
        long all = made() - before;
        Check.holds("four hundred dear calls make " + all + " bytes", all <= RUN_BYTES);
        Check.holds("the squeeze never ended", x.passed(400) + x.count(7) > 14000);
    }
}
