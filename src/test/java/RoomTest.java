import java.lang.management.ManagementFactory;

/** What a run makes in all has to stay far below the room that all calls of a run share. */
public final class RoomTest {
    private static final long ROOM_IN_BYTES = 7_300_000L * 4;

    public static void main(String[] args) {
        oneRun();
        Check.due("a long run makes little", made(RoomTest::oneRun) < ROOM_IN_BYTES / 20, true);
        Check.due("many objects fit", made(RoomTest::manyObjects) < ROOM_IN_BYTES, true);
        Check.end();
    }

    private static long made(Runnable run) {
        com.sun.management.ThreadMXBean threads =
                (com.sun.management.ThreadMXBean) ManagementFactory.getThreadMXBean();
        long thread = Thread.currentThread().getId();
        long before = threads.getThreadAllocatedBytes(thread);
        run.run();
        return threads.getThreadAllocatedBytes(thread) - before;
    }

    /** Ten in a ring, each bound to the next one and the one behind it; asked while it grows. */
    private static void oneRun() {
        NetworkOrders x = new NetworkOrders();
        for (int t = 0; t < 10; t++) {
            x.tensor(4);
            x.leg(t, 0, t);
            x.leg(t, 1, (t + 9) % 10);
            x.leg(t, 2, 10 + t);
            x.leg(t, 3, 10 + (t + 8) % 10);
            if (x.peak() <= 12) {
                x.value(0, 0);
            }
        }
        Check.due("all are shared", x.total(3), (1 << 20) - 1);
        for (int call = 0; call < 450; call += 6) {
            x.put(call % 10, call % 16, call % 9, 1);
            x.value(0, 0);
            x.slope(call % 10, call % 16, 0, 1);
            x.cut(call % 4);
            x.costOf(call);
            x.greedy(call % 9);
        }
    }

    private static void manyObjects() {
        for (int i = 0; i < 128; i++) {
            NetworkOrders x = new NetworkOrders();
            x.tensor(1);
            x.leg(0, 0, 0);
            x.value(0, 0);
        }
    }
}
