import java.lang.management.ManagementFactory;

/** Objects are made with a new PebbleCourses alone: no call that does not throw allocates anything. */
final class RoomTest {
    private static final com.sun.management.ThreadMXBean THREADS =
            (com.sun.management.ThreadMXBean) ManagementFactory.getThreadMXBean();
    private static final Checks CHECKS = new Checks();

    public static void main(String[] args) {
        CHECKS.at("room");
        run(new PebbleCourses());
        long start = bytes();
        PebbleCourses x = new PebbleCourses();
        long made = bytes();
        run(x);
        long end = bytes();
        CHECKS.holds("an object takes less than 20 KB: " + (made - start), made - start < 20_000);
        CHECKS.holds("512 calls make nothing: " + (end - made), end - made < 4_000);
        CHECKS.end();
    }

    private static long bytes() {
        return THREADS.getThreadAllocatedBytes(Thread.currentThread().getId());
    }

    private static void run(PebbleCourses x) {
        x.set(0, 60);
        x.set(2, 1);
        for (int k = 0; k < 85; k++) {
            x.fillAll();
            x.digest();
            x.takeUp(k % 6, 60);
            x.stock(1 + k % 6, 99);
            x.undo();
            x.ifFilled(k % 6, k % 3, k % 3);
        }
    }
}
