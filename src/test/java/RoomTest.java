import com.sun.management.ThreadMXBean;
import java.lang.management.ManagementFactory;

/** All that a run's calls make lives in one room, so an object makes its rows once and uses them again. */
public final class RoomTest {
    private static final int CALLS = 512;
    private static final int CACHES = 4;
    private static final int MOST_ACCESSES = 400;
    // A number takes four bytes; some 7,000 numbers an object leave room for a thousand objects in a run.
    private static final long MOST_BYTES_OF_AN_OBJECT = 4L * 7_000;

    private static final ThreadMXBean threads = (ThreadMXBean) ManagementFactory.getThreadMXBean();
    private static final Checks checks = new Checks();

    public static void main(String[] args) {
        // The machine itself makes objects when code runs for the first time.
        callsOf(fullYard());
        newObjectAndItsCaches();
        callsMakeNothing();
        makingAgainMakesNothing();
        checks.end("RoomTest");
    }

    private static void newObjectAndItsCaches() {
        long before = made();
        fullYard();
        dueAtMost("an object with its four caches", made() - before, MOST_BYTES_OF_AN_OBJECT);
    }

    private static void callsMakeNothing() {
        CacheYard x = fullYard();
        long before = made();
        callsOf(x);
        dueAtMost("all calls after the makes", made() - before, CALLS);
    }

    private static void makingAgainMakesNothing() {
        CacheYard x = fullYard();
        long before = made();
        for (int i = CACHES; i < CALLS; i++) {
            x.make(i % CACHES, i % 5, 1 << i % 4, i % 3, i % 7);
        }
        dueAtMost("makes of caches that were made before", made() - before, CALLS);
    }

    private static CacheYard fullYard() {
        CacheYard x = new CacheYard();
        for (int cache = 0; cache < CACHES; cache++) {
            x.make(cache, 4, 8, cache % 3, cache);
        }
        return x;
    }

    /** As many calls as an object is promised to answer, the makes among them. */
    private static void callsOf(CacheYard x) {
        for (int i = 0; i < MOST_ACCESSES; i++) {
            x.access(i * 37 % 4096, i % 3 == 0);
        }
        for (int i = CACHES + MOST_ACCESSES; i < CALLS; i++) {
            switch (i % 6) {
                case 0 -> x.curve(1 + i % 64, i % 7);
                case 1 -> x.best(1 + i % 64, i % 7);
                case 2 -> x.about(i % CACHES, i % 5);
                case 3 -> x.place(i % CACHES, i % 16, i % 8, i % 2);
                case 4 -> x.flush(i % CACHES);
                default -> x.accesses();
            }
        }
    }

    private static long made() {
        return threads.getThreadAllocatedBytes(Thread.currentThread().getId());
    }

    private static void dueAtMost(String what, long bytes, long most) {
        checks.due(what + " made " + bytes + " bytes; at most " + most, bytes <= most ? 1 : 0, 1);
    }
}
