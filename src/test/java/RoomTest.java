import com.sun.management.ThreadMXBean;
import java.lang.management.ManagementFactory;

/** Rule 12 of LANGUAGE.md: what a run makes is kept small, whichever call it is full of. */
public final class RoomTest {
    // The room has 7.3 million fields and elements, of at least four bytes each.
    private static final long ROOM = 4L * 7_300_000;

    private final Due due = new Due();
    private final ThreadMXBean memory = (ThreadMXBean) ManagementFactory.getThreadMXBean();

    public static void main(String[] args) {
        RoomTest test = new RoomTest();
        Bench told = test.longestRow();
        test.staysSmall("shorten", 500, () -> told.shorten(1));
        Bench worked = test.longestRow();
        test.staysSmall("work and unravel", 100, () -> {
            worked.work("rep(bind,yo)tolast0");
            worked.unravel(1);
        });
        Bench begun = test.longestRow();
        test.staysSmall("begin", 500, () -> begun.begin(40, true));
        test.staysSmall("new KnitBench", 500, KnitBench::new);
        test.due.end();
    }

    /** 80 stitches, the most that a row can have. */
    private Bench longestRow() {
        Bench bench = Bench.round(40);
        due.works(bench, "(yo,bind)x40", 40);
        return bench;
    }

    private void staysSmall(String what, int times, Runnable call) {
        long before = memory.getCurrentThreadAllocatedBytes();
        for (int i = 0; i < times; i++) {
            call.run();
        }
        long made = memory.getCurrentThreadAllocatedBytes() - before;
        due.isTrue(times + " times " + what + " within the room, with " + made + " bytes", made < ROOM);
    }
}
