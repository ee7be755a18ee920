import java.lang.management.ManagementFactory;

/** What the dearest runs of 512 calls make, garbage too, stays within the room that a run has. */
public final class RoomTest {
    private static final Report REPORT = new Report();
    private static final long ROOM_BYTES = 7_300_000L * Integer.BYTES;
    private static final int CALLS = 512;

    public static void main(String[] args) {
        check("constructors alone", RoomTest::constructorsAlone);
        check("each constructor with the largest space", RoomTest::constructorsWithSpace);
        check("spaces alone", RoomTest::spacesAlone);
        check("large objects made and slid away", RoomTest::largeObjects);
        beyondTheLastCall();
        REPORT.end();
    }

    private static void check(String what, Runnable run) {
        run.run();
        long before = allocated();
        run.run();
        long made = allocated() - before;
        if (made > ROOM_BYTES) {
            REPORT.fault(what + " made " + made + " bytes, the room has " + ROOM_BYTES);
        }
    }

    /** Stays at one value where the machine does not count. */
    private static long allocated() {
        if (ManagementFactory.getThreadMXBean() instanceof com.sun.management.ThreadMXBean counter
                && counter.isThreadAllocatedMemorySupported()) {
            return counter.getThreadAllocatedBytes(Thread.currentThread().getId());
        }
        return 0;
    }

    private static void constructorsAlone() {
        for (int i = 0; i < CALLS; i++) {
            new SlideRow().count(0);
        }
    }

    private static void constructorsWithSpace() {
        for (int i = 0; i < CALLS / 2; i++) {
            new SlideRow().space(16384);
        }
    }

    private static void spacesAlone() {
        SlideRow x = new SlideRow();
        for (int i = 0; i < CALLS; i++) {
            x.space(i % 2 == 0 ? 16384 : 16);
        }
    }

    private static void largeObjects() {
        SlideRow x = new SlideRow();
        x.space(16384);
        for (int i = 0; i < CALLS; i++) {
            if (x.make(2000, 2000) == 0) {
                x.slide();
            }
        }
    }

    /** Answers are free there, but no call may throw by itself: as many objects as cells allow. */
    private static void beyondTheLastCall() {
        SlideRow x = new SlideRow();
        x.space(16384);
        int before = 0;
        for (int a = x.make(1, 0); a != 0; a = x.make(1, 0)) {
            x.set(a, 0, before);
            before = a;
        }
        x.root(0, before);
        REPORT.due("the longest line", x.slide(), 16384);
        x.root(0, 0);
        REPORT.due("the longest line goes", x.slide(), 0);
    }
}
