import com.sun.management.ThreadMXBean;
import java.lang.management.ManagementFactory;

/** How much the 512 calls of a run make: rows are made in constructors and used again, so that it is little. */
public final class RoomTest {
    private static final int CALLS = 512;
    private static final int WORDS = 600;

    /** Far below what 512 rows of 600 words would be, and far above what the exceptions of 512 calls are. */
    private static final long MOST_BYTES = 700_000;

    /** Objects alone, each with its rows: in all, less than a quarter of 7.3 million elements of four bytes. */
    private static final long MOST_BYTES_OF_OBJECTS = 7_300_000;

    private static final ThreadMXBean THREADS = (ThreadMXBean) ManagementFactory.getThreadMXBean();

    private interface Call {
        void make(CopyHeaps heaps, int i);
    }

    public static void main(String[] args) {
        Script script = new Script();
        check(script, "processes", (heaps, i) -> heaps.exit(heaps.spawn()));
        check(script, "collections", (heaps, i) -> heaps.collect(1 + i % 8));
        check(script, "capacities", (heaps, i) -> heaps.trim(1 + i % 8));
        check(script, "pairs", (heaps, i) -> heaps.pair(1, i % 4, i % 4, (i + 1) % 4));
        check(script, "tuples", (heaps, i) -> heaps.tuple(1, i % 4, i % 5));
        check(script, "words", (heaps, i) -> heaps.words(1 + i % 8, 0));
        check(script, "comparisons", (heaps, i) -> heaps.equal(1, 0, 1 + i % 8, 1));
        check(script, "messages", (heaps, i) -> heaps.broadcast(1, 0));
        check(script, "blobs", (heaps, i) -> heaps.blob(1 + i % 8, 0, 1 + i % 100));
        checkObjects(script);
        script.end();
    }

    private static void check(Script script, String what, Call call) {
        long before = made();
        CopyHeaps heaps = new CopyHeaps(WORDS);
        for (int i = 0; i < 7; i++) {
            heaps.spawn();
        }
        heaps.pair(1, 0, 0, 0);
        heaps.pair(1, 1, 0, 0);
        for (int i = 0; i < CALLS; i++) {
            makeOrBeRefused(call, heaps, i);
        }
        long bytes = made() - before;
        script.isTrue("512 calls that make " + what + " take " + bytes + " bytes", bytes <= MOST_BYTES);
    }

    private static void makeOrBeRefused(Call call, CopyHeaps heaps, int i) {
        try {
            call.make(heaps, i);
        } catch (IllegalStateException | UnsupportedOperationException | IndexOutOfBoundsException refused) {
            return;
        }
    }

    private static void checkObjects(Script script) {
        long before = made();
        for (int i = 0; i < CALLS; i++) {
            new CopyHeaps(WORDS).count(1);
        }
        long bytes = made() - before;
        script.isTrue("512 objects take " + bytes + " bytes", bytes <= MOST_BYTES_OF_OBJECTS);
    }

    private static long made() {
        return THREADS.getThreadAllocatedBytes(Thread.currentThread().getId());
    }
}
