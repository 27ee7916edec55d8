import com.sun.management.ThreadMXBean;
import java.lang.management.ManagementFactory;

/**
 * What a run makes has room: 600,000 objects and 7.3 million fields and elements. An object takes 16
 * bytes or more and an element one byte or more, so a run that takes fewer than ENOUGH bytes in all
 * keeps far below both.
 */
public final class RoomTest {
    private static final long ENOUGH = 2_000_000;
    private static final int CALLS = 512;

    public static void main(String[] args) {
        busiest(new LinkStateNet(), 8);
        Check.part("a run of 512 calls");
        ThreadMXBean bean = (ThreadMXBean) ManagementFactory.getThreadMXBean();
        long thread = Thread.currentThread().getId();
        long before = bean.getThreadAllocatedBytes(thread);
        busiest(new LinkStateNet(), CALLS);
        long taken = bean.getThreadAllocatedBytes(thread) - before;
        Check.due(taken + " bytes are counted", taken > 1000, true);
        Check.due(taken + " bytes are few enough", taken < ENOUGH, true);
        Check.end();
    }

    /** All ten links, and before every call of pass something that asks for new descriptions. */
    private static void busiest(LinkStateNet net, int calls) {
        int made = 0;
        for (int a = 0; a < 5; a++) {
            for (int b = a + 1; b < 5; b++) {
                net.link(a, b, 1 + made % 9);
                made++;
            }
        }
        for (; made < calls; made += 2) {
            int cost = 1 + made / 2 % 9;
            if (made % 4 == 0) {
                net.stub(made / 4 % 5, made % 2, 0, 0, cost);
            } else {
                net.link(made / 4 % 5, (made / 4 + 1) % 5, cost);
            }
            net.pass(4);
        }
    }
}
