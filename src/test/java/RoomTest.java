import com.sun.management.ThreadMXBean;
import java.lang.management.ManagementFactory;

/** What some 500 calls take of the room that all calls of a run share: rows come with make, and no call makes more. */
public final class RoomTest extends Answers {
    /** Six sketches of three rows of 4000 ints at most, and little besides. */
    private static final long MOST_BYTES = 6 * 3 * 4 * 4000 + 50_000;

    private static int sum;

    private static void dearCalls() {
        QuantileDesk d = new QuantileDesk();
        for (int s = 0; s < 6; s++) {
            d.make(s % 3, 1 + 199 * (s % 2), s);
        }
        for (int i = 0; i < 33; i++) {
            for (int s = 0; s < 6; s++) {
                sum += d.run(s, i, 1 << 28, 600);
                sum += i % 5 == 4 ? d.clear(s) : d.value(s, 600);
            }
            sum += d.merge(0, 3) + d.astray();
            d.clear(0);
        }
    }

    private static void takesLittleRoom() {
        ThreadMXBean threads = (ThreadMXBean) ManagementFactory.getThreadMXBean();
        dearCalls();
        long before = threads.getCurrentThreadAllocatedBytes();
        dearCalls();
        long taken = threads.getCurrentThreadAllocatedBytes() - before;
        dueText("at most " + MOST_BYTES, taken <= MOST_BYTES ? "at most " + MOST_BYTES : "" + taken);
    }

    public static void main(String[] args) {
        edge("room of 500 calls", RoomTest::takesLittleRoom);
        Check.end();
    }
}
