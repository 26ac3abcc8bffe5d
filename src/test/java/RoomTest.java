import java.lang.management.ManagementFactory;

/** What the calls of one run make stays far below its room, for the dearest calls too. */
public final class RoomTest {
    private static final com.sun.management.ThreadMXBean THREADS =
            (com.sun.management.ThreadMXBean) ManagementFactory.getThreadMXBean();

    public static void main(String[] args) {
        if (THREADS.isThreadAllocatedMemorySupported()) {
            // Once without looking, so that what the Java machine makes for itself is there already.
            sends();
            long before = allocated();
            sends();
            long made = allocated() - before;
            System.out.println("bytes made by 512 dear calls: " + made);
            // The room is 7.3 million elements; an int has four bytes.
            Check.due("a tenth of the room is enough", made < 7_300_000L * 4 / 10, true);
            before = allocated();
            for (int i = 0; i < 512; i++) {
                new SplitKernel(6);
            }
            made = allocated() - before;
            System.out.println("bytes made by 512 constructors: " + made);
            Check.due("a quarter of the room is enough", made < 7_300_000L * 4 / 4, true);
        }
        Check.end();
    }

    private static long allocated() {
        return THREADS.getThreadAllocatedBytes(Thread.currentThread().getId());
    }

    /** Domain 0 sends at nearly every step to the others, whose slots never come; all the rest are purges. */
    private static void sends() {
        SplitKernel x = new SplitKernel(6);
        for (int d = 1; d < 6; d++) {
            x.flow(0, d, true);
        }
        for (int i = 0; i < 12; i++) {
            x.channel(0, i % 5 + 1, false, 4);
        }
        Check.program(x, 0, Check.set(1, 4));
        for (int i = 0; i < 62; i++) {
            Check.program(x, 0, Check.op(14, i % 12, 0, 1));
        }
        Check.program(x, 0, Check.op(9, 0, 1, 0));
        x.slot(0, 0, 20);
        x.seal();
        for (int i = 0; i < 15; i++) {
            x.tick(200);
        }
        for (int i = 0; i < 400; i++) {
            if (i % 2 == 0) {
                x.purge(i % 6);
            } else {
                x.undisturbed(i % 6);
            }
        }
    }
}
