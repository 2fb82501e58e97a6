import java.lang.management.ManagementFactory;

/** All calls of a run live in one room, so calls must make nothing that lasts or piles up. */
final class RoomTest {
    private static final long BYTES_OF_A_LINK = 4096;
    private static final long BYTES_OF_ALL_CALLS = 65536;
    // With the two calls that enable the ends, these stay under the document's 512.
    private static final int CALLS = 508;

    public static void main(String[] args) {
        Expect expect = new Expect();
        // Once before counting, since the first use of a class makes objects of its own.
        work(Links.enabled(1));
        long start = made();
        MemoryLink link = Links.enabled(1);
        long afterNew = made();
        work(link);
        long afterWork = made();
        expect.yes("a link is small: " + (afterNew - start), afterNew - start < BYTES_OF_A_LINK);
        expect.yes("calls make nothing: " + (afterWork - afterNew), afterWork - afterNew < BYTES_OF_ALL_CALLS);
        expect.finish();
    }

    private static long made() {
        com.sun.management.ThreadMXBean threads =
                (com.sun.management.ThreadMXBean) ManagementFactory.getThreadMXBean();
        return threads.getThreadAllocatedBytes(Thread.currentThread().getId());
    }

    private static void work(MemoryLink link) {
        for (int i = 0; i < CALLS; i += 4) {
            link.run(200);
            link.command(124, 32, i, 0, 16, i % 256, 0);
            link.command(76, 32, i, 0, 16, 0, 0);
            link.take(0);
        }
    }
}
