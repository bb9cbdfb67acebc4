import com.sun.management.ThreadMXBean;
import java.lang.management.ManagementFactory;

/** How much room a run takes: some for the object, none for its calls. */
final class RoomTest {
    private static final long MOST_OF_OBJECT = 40000;
    private static final long MOST_OF_CALLS = 20000;

    private RoomTest() {
    }

    public static void main(String[] args) {
        ThreadMXBean bean = (ThreadMXBean) ManagementFactory.getThreadMXBean();
        long made = 0;
        long called = 0;
        for (int times = 0; times < 3; times++) {
            long before = bean.getCurrentThreadAllocatedBytes();
            BeggingLetter x = new BeggingLetter();
            long then = bean.getCurrentThreadAllocatedBytes();
            run(x);
            made = then - before;
            called = bean.getCurrentThreadAllocatedBytes() - then;
        }
        Due.holds("bytes of an object: " + made, made < MOST_OF_OBJECT);
        Due.holds("bytes of calls: " + called, called < MOST_OF_CALLS);
        Due.end();
    }

    /** Each of the dearest calls, many times, on the largest land. */
    private static void run(BeggingLetter x) {
        for (int p = 0; p < 12; p++) {
            x.parish(p, 8 * p);
            for (int q = 0; q < p; q++) {
                x.road(p, q, 1 + p * q % 9);
            }
        }
        for (int k = 0; k < 6; k++) {
            x.letter(k, k, 5000);
            x.feed(k, k, 7, 8, 9);
            x.text(k, 20);
        }
        for (int i = 0; i < 20; i++) {
            // gw(1=1);t10+d(1=1);h
            x.feed(1735862321, 1026631995, 1949380651, 1680355645, 824785768);
            // 0(1=1)
            x.feed(807940413, 824795489, 0, 0, 0);
            x.law(26);
            x.tried(60, 0);
            x.spreads(0, 100);
            x.round(0, 0xfe, 6);
            x.readsMost(0, 31, 4);
            x.bestMonth(0, 0, 0);
            x.tales(0, 0);
            x.fromWhom();
            x.lent(0, 60, 1);
            x.keep();
            x.undo();
        }
    }
}
