import java.lang.management.ManagementFactory;

/** An object's rows are made once: 512 calls of the dearest kinds leave next to nothing in the run's one room. */
public final class RoomTest {
    private static final long MOST_BYTES_OF_OBJECT = 250_000;
    private static final long MOST_BYTES_OF_CALLS = 60_000;

    public static void main(String[] args) {
        dearCalls(new VanPlays());
        long start = bytesSoFar();
        VanPlays x = new VanPlays();
        long made = bytesSoFar();
        dearCalls(x);
        long end = bytesSoFar();
        Check.due("bytes of an object are few: " + (made - start), made - start < MOST_BYTES_OF_OBJECT, true);
        Check.due("bytes of its calls are few: " + (end - made), end - made < MOST_BYTES_OF_CALLS, true);
        Check.close();
    }

    private static long bytesSoFar() {
        return ((com.sun.management.ThreadMXBean) ManagementFactory.getThreadMXBean())
                .getThreadAllocatedBytes(Thread.currentThread().getId());
    }

    private static void dearCalls(VanPlays x) {
        for (int h = 0; h < 12; h++) {
            x.feed(0x64656667, 0, 0, 0, 0);
            x.end(4);
            x.hall(h, h, 99, 99);
        }
        for (int s = 0; s < 6; s++) {
            x.feed(0x01010101, 0x01010165, 0, 0, 0);
            x.end(8);
            x.show(0, 0, 0, 13, 5, 3);
            for (int h = 0; h < 12; h++) {
                x.give(h, s, 1);
            }
        }
        for (int i = 0; i < 60; i++) {
            x.book(i % 6);
            x.plugged(i % 6, i % 12, 7);
            x.lacks(i % 6, i % 12);
            x.feed(0x66656520, 0x313b6665, 0x65000000, 0, 0);
            x.terms(i % 6);
            x.snow(i % 12, i % 14);
        }
    }
}
