import com.sun.management.ThreadMXBean;
import java.lang.management.ManagementFactory;

/**
 * All calls of a run live in one room, so what a call makes must stay small: the class makes its
 * rows in the constructor, and a call that answers makes nothing.
 */
public final class RoomTest {
    private static final int CALLS = 25;
    /** Far above what the machine may make by itself, and far below one row a call. */
    private static final long MOST_BYTES = 4000;

    public static void main(String[] args) {
        ThreadMXBean threads = (ThreadMXBean) ManagementFactory.getThreadMXBean();
        if (!threads.isThreadAllocatedMemorySupported()) {
            System.out.println("RoomTest: this machine does not tell what a thread makes");
            return;
        }
        // Once before it is measured: the first time, the machine makes what it needs to run the class.
        useAllCalls(Converters.running(4, 9000, 40));
        PhaseConverter x = Converters.running(4, 9000, 40);
        long before = threads.getCurrentThreadAllocatedBytes();
        long sum = useAllCalls(x);
        long made = threads.getCurrentThreadAllocatedBytes() - before;
        Check.yes("the calls made " + made + " bytes (their sum is " + sum + ")", made <= MOST_BYTES);
        Check.end("RoomTest");
    }

    private static long useAllCalls(PhaseConverter x) {
        long sum = 0;
        for (int i = 0; i < CALLS; i++) {
            sum += x.set(2, 9000) + x.setting(2) + x.run(3) + x.append('x') + x.firstError() + x.play();
            sum += x.start() + x.stop() + x.clearBuffer();
            sum += x.count(5) + x.phase(3, 0) + x.record(15, 0) + x.unbalance() + (long) x.meanVoltage();
            sum += x.ifLoaded(9000, 100, 1) + x.settles(50) + x.greatestLoad(3000) + x.digest();
        }
        return sum + x.begin(2);
    }
}
