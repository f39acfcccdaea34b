import com.sun.management.ThreadMXBean;
import java.lang.management.ManagementFactory;

/** What the dearest runs of 512 calls make stays far below the room that a run has. */
public final class RoomTest {
    private static final ThreadMXBean THREADS = (ThreadMXBean) ManagementFactory.getThreadMXBean();
    private static final long MOST_BYTES = 1 << 20;

    public static void main(String[] args) {
        Due.holds("a new object", bytesOf(-1) < 1 << 14);
        for (int dear = 0; dear < 7; dear++) {
            Due.holds("512 calls of sort " + dear, bytesOf(dear) < MOST_BYTES);
        }
        Due.end();
    }

    private static long bytesOf(int dear) {
        run(dear, 3);
        long before = THREADS.getThreadAllocatedBytes(Thread.currentThread().getId());
        run(dear, 512);
        return THREADS.getThreadAllocatedBytes(Thread.currentThread().getId()) - before;
    }

    private static void run(int dear, int calls) {
        RoadSorted x = new RoadSorted();
        if (dear < 0) {
            return;
        }
        x.deal(14);
        x.bump(50);
        x.sheet(0, 1, 24);
        x.feed(0x72697365, 0x20742a64, 0x2b6d2b31);
        x.text();
        x.keep();
        for (int i = 0; i < calls; i++) {
            call(x, dear);
        }
    }

    private static void call(RoadSorted x, int dear) {
        switch (dear) {
            case 0: x.padding(0, 13, 40); break;
            case 1: x.halts(40, 0); break;
            case 2: x.rests(); break;
            case 3: x.miles(0, 0); break;
            case 4: x.jolts(100); break;
            case 5: x.keep(); x.back(); x.check(30); x.lay(0, 2, 0); break;
            default:
                x.feed(0x72697365, 0x20742a64, 0x2b6d2b31);
                x.feed(0x2b2b2b2b, 0x2b2b2b2b, 0x2b2b2b2b);
                x.trim(12);
                x.text();
                x.back();
                break;
        }
    }
}
