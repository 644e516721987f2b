import com.sun.management.ThreadMXBean;
import java.lang.management.ManagementFactory;

/** The room of a run: an object is small, and none of its calls makes anything. */
public final class RoomTest {
    private static final int OBJECTS = 100;
    /** Room in bytes that the machine itself may use up meanwhile. */
    private static final long SLACK = 20000;

    private final Check check = new Check("RoomTest");
    private final ThreadMXBean threads = (ThreadMXBean) ManagementFactory.getThreadMXBean();
    private final RingPlanes[] kept = new RingPlanes[OBJECTS];

    public static void main(String[] args) {
        new RoomTest().all();
    }

    private long used() {
        return threads.getThreadAllocatedBytes(Thread.currentThread().getId());
    }

    private void all() {
        used();
        long before = used();
        for (int k = 0; k < OBJECTS; k++) {
            kept[k] = new RingPlanes();
        }
        check.holds("room of " + OBJECTS + " objects", used() - before < OBJECTS * 5000L + SLACK);
        mix(kept[0]);
        before = used();
        for (int k = 1; k < 4; k++) {
            mix(kept[k]);
        }
        check.holds("room of 3 times 512 calls", used() - before < SLACK);
        check.end();
    }

    private static void mix(RingPlanes x) {
        x.field(9);
        x.twist();
        for (int turn = 0; turn < 30; turn++) {
            x.mirrors(turn, 90 - turn);
            x.open(turn);
            x.hexagon(turn, 90 - turn);
            x.triangles(turn, 0, 3, 9, 1, 2);
            x.law(2, 1);
            x.share();
            x.elements(turn % 3);
            x.plane(turn % 3);
            x.join(turn, 90 - turn, turn % 2);
            x.at(turn, turn % 2, 5);
            x.type('1');
            x.fault(0);
            x.play();
            x.product(turn % 9, 3, 3);
            x.exchange();
            x.undo();
            x.undo();
        }
    }
}
