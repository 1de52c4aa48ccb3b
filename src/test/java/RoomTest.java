import com.sun.management.ThreadMXBean;
import java.lang.management.ManagementFactory;

/** What a run makes stays small: an object makes its rows once, and no call makes any. */
public final class RoomTest {
    private static final Check CHECK = new Check("room");
    private static final long MOST_A_PORT = 64 * 1024;
    private static final long SLACK = 4 * 1024;

    public static void main(String[] args) {
        ThreadMXBean threads = (ThreadMXBean) ManagementFactory.getThreadMXBean();
        long me = Thread.currentThread().getId();
        dearCalls(port());
        long before = threads.getThreadAllocatedBytes(me);
        WingPort x = port();
        long made = threads.getThreadAllocatedBytes(me) - before;
        CHECK.holds("a port takes " + made + " bytes", made <= MOST_A_PORT);
        before = threads.getThreadAllocatedBytes(me);
        dearCalls(x);
        long more = threads.getThreadAllocatedBytes(me) - before;
        CHECK.holds("its calls take " + more + " bytes more", more <= SLACK);
        CHECK.end();
    }

    private static WingPort port() {
        WingPort x = Ports.with(1, 1, 1, 2, 2, 3, 3);
        x.set(6, 1);
        x.set(8, 2);
        for (int v = 0; v < 12; v++) {
            x.visit(v % 6, v, v + 20, 30);
        }
        for (int f = 0; f < 16; f++) {
            x.feed(f % 12, (f + 5) % 12, 9, 9);
        }
        return x;
    }

    /** The dearest calls, as many as an object is used for once it is furnished. */
    private static void dearCalls(WingPort x) {
        for (int k = 0; k < 56; k++) {
            x.plan(0xc00, 40);
            x.beside(200, k % 5);
            x.feedTape(0x7072696f2028313cL, 8);
            x.text();
            x.sheet(k % 4, 2, 40);
            x.visits(k % 4, 2, 0, 10);
            x.misses(k % 12, 0);
            x.settle();
        }
    }
}
