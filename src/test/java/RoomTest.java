import com.sun.management.ThreadMXBean;
import java.lang.management.ManagementFactory;

/** The room of a run: what a mesh makes does not grow with its calls, and the fullest mesh stays small. */
public final class RoomTest {
    private static final Check CHECK = new Check("RoomTest");
    private static final ThreadMXBean THREADS = (ThreadMXBean) ManagementFactory.getThreadMXBean();

    public static void main(String[] args) {
        // the first run loads the classes, which takes room of its own
        fullestMesh();
        long before = made();
        ReversalMesh x = fullestMesh();
        long full = made() - before;
        CHECK.yes("the fullest mesh made " + full + " bytes", full < 600_000);
        before = made();
        // 287 calls made it, and 512 are promised
        for (int call = 0; call < 75; call++) {
            CHECK.due("drain", 2000, x.drain(2000));
            CHECK.yes("links come and go", x.down(0, 1) >= 0 && x.up(1, 0) == 69);
        }
        long more = made() - before;
        CHECK.yes("its calls made " + more + " bytes more", more < 20_000);
        CHECK.end();
    }

    private static long made() {
        return THREADS.getThreadAllocatedBytes(Thread.currentThread().getId());
    }

    /** All 72 links are made; then the goals' node is cut off, so that the others never come to rest. */
    private static ReversalMesh fullestMesh() {
        ReversalMesh x = new ReversalMesh();
        for (int node = 0; node < 24; node++) {
            for (int far = 1; far <= 3; far++) {
                x.up(node, (node + far) % 24);
            }
        }
        for (int g = 0; g < 6; g++) {
            x.goal(g, 23, g % 2);
        }
        for (int other = 20; other < 27; other++) {
            if (other != 23) {
                x.down(23, other % 24);
            }
        }
        x.up(20, 0);
        x.up(21, 1);
        x.up(22, 2);
        for (int packet = 0; packet < 200; packet++) {
            x.send(packet % 24, packet % 6, packet);
        }
        return x;
    }
}
