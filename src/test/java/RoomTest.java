import com.sun.management.ThreadMXBean;
import java.lang.management.ManagementFactory;

/** All calls of one run live in one room: what a run of the dearest calls makes, in bytes. */
public final class RoomTest {
    private static final int CALLS = 512;
    /** Some 600,000 objects with 7.3 million fields and elements of four bytes. */
    private static final long ROOM = 600000L * 16 + 7300000L * 4;

    private final Check check = new Check("RoomTest");
    private final ThreadMXBean threads = (ThreadMXBean) ManagementFactory.getThreadMXBean();
    private final RingPlanes[] kept = new RingPlanes[CALLS];

    public static void main(String[] args) {
        new RoomTest().all();
    }

    private long used() {
        return threads.getThreadAllocatedBytes(Thread.currentThread().getId());
    }

    private void all() {
        used();
        long before = used();
        for (int k = 0; k < CALLS; k++) {
            kept[k] = new RingPlanes();
        }
        fits("room of " + CALLS + " objects", before);
        for (int kind = 0; kind < 8; kind++) {
            RingPlanes x = kept[kind];
            x.field(9);
            x.twist();
            before = used();
            for (int call = 3; call <= CALLS; call++) {
                dear(x, kind, call % 91);
            }
            fits("room of calls of kind " + kind, before);
        }
        check.end();
    }

    private void fits(String what, long before) {
        check.holds(what, used() - before < ROOM);
    }

    private static void dear(RingPlanes x, int kind, int k) {
        switch (kind) {
            case 0:
                x.mirrors(k, 90 - k);
                break;
            case 1:
                x.open(k);
                break;
            case 2:
                x.hexagon(k, (k + 7) % 91);
                break;
            case 3:
                x.triangles(k, 0, 3, 9, 1, 2);
                break;
            case 4:
                x.plane(k % 3);
                break;
            case 5:
                x.share();
                break;
            case 6:
                x.product(k % 9, k % 7, k % 9);
                break;
            default:
                x.play();
                break;
        }
    }
}
