import java.util.function.Supplier;

/** Meshes that several tests begin with, each made of few calls. */
final class Meshes {
    static final Supplier<ReversalMesh> NEW = ReversalMesh::new;
    static final Supplier<ReversalMesh> BUSY = Meshes::busy;
    static final Supplier<ReversalMesh> FULL_WAY = Meshes::fullWay;
    static final Supplier<ReversalMesh> PACKETS_200 = Meshes::packets200;

    private Meshes() {
    }

    /**
     * Something of everything. Goals 0, 1 and 5 have the modes 2, 0 and 1; nodes 0 to 4 are a line; node 5 has
     * six neighbours; node 7 is asking; packet 0 is delivered, packet 1 is on its way, packet 2 has no next;
     * messages wait on both sides of node 5.
     */
    static ReversalMesh busy() {
        ReversalMesh x = new ReversalMesh();
        x.goal(0, 0, 2);
        x.goal(1, 1, 0);
        x.goal(5, 23, 1);
        for (int node = 0; node < 4; node++) {
            x.up(node, node + 1);
        }
        x.query(4, 0);
        x.drain(200);
        x.time(6);
        x.send(0, 0, 70);
        x.send(4, 0, 71);
        x.move(1);
        x.send(7, 0, 72);
        for (int other = 6; other <= 11; other++) {
            x.up(5, other);
        }
        x.query(7, 0);
        x.step(6, 5);
        x.step(5, 11);
        return x;
    }

    /**
     * 64 messages wait from node 1 to node 10. Nodes 0 and 1 raise each other by turns, for goal 0 of mode 1 in
     * node 23; node 1 tells node 10 too, which it saw far above, and drain never comes to what waits there.
     */
    static ReversalMesh fullWay() {
        return wayWith(64);
    }

    static ReversalMesh wayWith(int waiting) {
        ReversalMesh x = new ReversalMesh();
        x.goal(0, 23, 1);
        x.up(10, 11);
        x.drain(400);
        x.up(0, 1);
        x.up(1, 10);
        x.step(10, 1);
        x.step(0, 1);
        if (waiting > 1) {
            x.drain(2 * (waiting - 1));
        }
        return x;
    }

    /** Goal 2 is node 1, of mode 0; all packets stand in node 3, which is beside it. */
    static ReversalMesh packets200() {
        ReversalMesh x = new ReversalMesh();
        x.goal(2, 1, 0);
        x.up(1, 3);
        x.drain(2);
        for (int packet = 0; packet < 200; packet++) {
            x.send(3, 2, 1000 + packet);
        }
        return x;
    }

    /** 72 links: six at each of the 24 nodes. */
    static ReversalMesh allLinks() {
        ReversalMesh x = new ReversalMesh();
        for (int node = 0; node < 24; node++) {
            for (int far = 1; far <= 3; far++) {
                x.up(node, (node + far) % 24);
            }
        }
        return x;
    }

    /** Goal 0 is node 0, of mode 2; the nodes are a line, the last of which asked; all is delivered. */
    static ReversalMesh line(int... nodes) {
        ReversalMesh x = new ReversalMesh();
        x.goal(0, 0, 2);
        for (int i = 1; i < nodes.length; i++) {
            x.up(nodes[i - 1], nodes[i]);
        }
        x.query(nodes[nodes.length - 1], 0);
        x.drain(1000);
        return x;
    }

    /** Steps from one node to another until nothing waits there. */
    static void stepAll(ReversalMesh x, int from, int to) {
        boolean some = true;
        for (int i = 0; some && i < 64; i++) {
            some = !Check.outcome(() -> x.step(from, to)).startsWith("throws");
        }
    }
}
