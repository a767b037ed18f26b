import java.lang.management.ManagementFactory;

/** All calls of one run live in one room: the dearest runs may make little. */
public final class ThriftTest {
    // An element takes eight bytes at the most, so this is far below the 7.3 million that the room has.
    private static final long MOST_BYTES = 4L << 20;

    public static void main(String[] args) {
        long made = Math.max(spent(false), spent(true));
        System.out.println("the dearest run made " + made + " bytes");
        if (made > MOST_BYTES) {
            System.out.println("due are at most " + MOST_BYTES);
            System.exit(1);
        }
    }

    private static long allocated() {
        return ((com.sun.management.ThreadMXBean) ManagementFactory.getThreadMXBean()).getCurrentThreadAllocatedBytes();
    }

    private static long spent(boolean telling) {
        long before = allocated();
        KeyDrive d = new KeyDrive();
        for (int i = 0; i < 100; i++) {
            d.feed(0x01020061 + i % 90, 0x01020062, 0x01020063, 0x01020064, 0);
            d.feed(i * 77, i, i, i, i);
            if (telling) {
                d.room(6);
                d.best(0);
                d.trimmed(i % 3);
            } else {
                d.snap(i % 4);
                d.image(i % 2);
                d.undo(i % 10);
            }
            d.put(1 + i % 8, i % 30);
        }
        return allocated() - before;
    }
}
