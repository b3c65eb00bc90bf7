import java.lang.management.ManagementFactory;

/** All calls of a run share one room, so no call may make new rows but the first save of a slot. */
public final class RoomTest {
    private static final Check CHECK = new Check();
    private static final int CALLS = 400;
    /** Far below one object a call, and above what the measuring itself may take. */
    private static final long MOST_BYTES = 8 * CALLS;

    private interface Call {
        int on(SwitchLevelSimulator s, int number);
    }

    public static void main(String[] args) {
        takesNoRoom("steadyValue", (s, i) -> s.steadyValue(i % 24));
        takesNoRoom("definiteStrength", (s, i) -> s.definiteStrength(i % 24));
        takesNoRoom("vicinity", (s, i) -> s.vicinity(i % 24));
        takesNoRoom("step", (s, i) -> s.step());
        takesNoRoom("settle", (s, i) -> s.settle(1 + i % 100));
        takesNoRoom("period", (s, i) -> s.period(1 + i % 100));
        takesNoRoom("detects", (s, i) -> s.detects(i % 37, 1 + i % 2, i % 20, 1 + i % 100));
        takesNoRoom("detectedFaults", (s, i) -> s.detectedFaults(i % 20, 1 + i % 20));
        takesNoRoom("save", (s, i) -> s.save(i % 2));
        takesNoRoom("restore", (s, i) -> s.restore(i % 2));
        CHECK.finish();
    }

    private static void takesNoRoom(String what, Call call) {
        SwitchLevelSimulator s = Circuits.restingAfter101Steps();
        s.save(0);
        s.save(1);
        // The first calls also load what the virtual machine itself needs.
        for (int number = 0; number < 10; number++) {
            call.on(s, number);
        }
        long before = allocated();
        for (int number = 0; number < CALLS; number++) {
            call.on(s, number);
        }
        long taken = allocated() - before;
        CHECK.holds(what + " takes " + taken + " bytes in " + CALLS + " calls", taken <= MOST_BYTES);
    }

    /** Zero on a virtual machine that does not count, which then tells nothing. */
    private static long allocated() {
        if (ManagementFactory.getThreadMXBean() instanceof com.sun.management.ThreadMXBean bean
                && bean.isThreadAllocatedMemorySupported()) {
            return bean.getThreadAllocatedBytes(Thread.currentThread().getId());
        }
        return 0;
    }
}
