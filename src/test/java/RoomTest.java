import com.sun.management.ThreadMXBean;
import java.lang.management.ManagementFactory;

/** All calls of one run live in one room: a depot makes its rows once, and its calls make nothing. */
final class RoomTest {
    private static final ThreadMXBean THREADS = (ThreadMXBean) ManagementFactory.getThreadMXBean();
    private static final long BYTES_OF_A_DEPOT = 64 * 1024;
    // What the machine itself may make beside the program; one object a call would be eight thousand bytes.
    private static final long BYTES_OF_512_CALLS = 2048;

    private RoomTest() {
    }

    static void run() {
        Check.promise(0);
        // The first rounds load classes and make strings.
        for (int round = 0; round < 3; round++) {
            calls(new ParcelDepot());
        }
        long before = allocated();
        ParcelDepot depot = new ParcelDepot();
        long made = allocated();
        calls(depot);
        long called = allocated();
        Check.holds("a depot in " + (made - before) + " bytes", made - before < BYTES_OF_A_DEPOT);
        Check.holds("512 calls in " + (called - made) + " bytes", called - made < BYTES_OF_512_CALLS);
    }

    private static long allocated() {
        return THREADS.getThreadAllocatedBytes(Thread.currentThread().getId());
    }

    private static void calls(ParcelDepot depot) {
        Depots.run(depot, "road 0-1 9;road 1-2 3;parcel 20 0 2;put 0 0");
        for (int round = 0; round < 64; round++) {
            depot.isConsistent();
            depot.carry(0, 1 - depot.place(0));
            depot.writeSack(0);
            depot.undo();
            depot.save();
            depot.restore();
            Depots.run(depot, "out 0;put 0 0");
            depot.heaviest(0);
        }
    }
}
