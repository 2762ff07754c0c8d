import com.sun.management.ThreadMXBean;
import java.lang.management.ManagementFactory;

/**
 * All calls of a run share one room of some 600,000 objects and 7.3 million fields and elements.
 * An object has 16 bytes at least, and a field or element of this class 4: so what makes fewer bytes than
 * MOST_BYTES has room by both measures.
 */
public final class RoomTest {
    private static final Check CHECK = new Check("RoomTest");
    private static final long MOST_BYTES = 600_000L * 16;
    private static final int CALLS = 512;

    private static final ThreadMXBean THREADS = (ThreadMXBean) ManagementFactory.getThreadMXBean();

    private interface Calls {
        void on(PathProofs x);
    }

    public static void main(String[] args) {
        hasRoom("tapes of as many nodes as can be taken as often", RoomTest::takes);
        hasRoom("the deepest ways written anew", RoomTest::deepWrites);
        hasRoom("the longest tapes shown", RoomTest::shows);
        CHECK.end();
    }

    private static void hasRoom(String run, Calls calls) {
        // Once before, so that what the machine makes to load the classes is not counted.
        calls.on(new PathProofs());
        long before = THREADS.getCurrentThreadAllocatedBytes();
        calls.on(new PathProofs());
        long made = THREADS.getCurrentThreadAllocatedBytes() - before;
        CHECK.holds(run + ": " + made + " bytes", made < MOST_BYTES);
    }

    /** A put brings two nodes, a feed of 8 octets fewer: half of the calls are puts, the others take them all. */
    private static void takes(PathProofs x) {
        int puts = CALLS / 2 - 2;
        for (int i = 0; i < puts; i++) {
            x.put(i * 256, i);
        }
        x.want(0, 65535);
        x.show(-1);
        long digest = x.root(-1);
        for (int call = puts + 3; call < CALLS; call++) {
            x.take(digest);
        }
    }

    private static void deepWrites(PathProofs x) {
        x.put(0, 0);
        for (int i = 0; i < 16; i++) {
            x.put(1 << i, i);
        }
        for (int call = 17; call < CALLS; call++) {
            x.put(0, call);
        }
    }

    private static void shows(PathProofs x) {
        for (int i = 0; i < 266; i++) {
            x.put(i, i);
        }
        x.want(0, 65535);
        for (int call = 267; call < CALLS; call++) {
            x.show(-1);
        }
    }
}
