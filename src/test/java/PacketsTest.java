/** Promises 9 and 13 to 16: packets, and the way they go. */
public final class PacketsTest {
    private static final Check CHECK = new Check("PacketsTest");

    public static void main(String[] args) {
        packetsGoDown();
        wordsComeInOrder();
        packetsWaitWithoutNext();
        moveRefuses();
        packetRefuses();
        gotRefuses();
        twoHundred();
        CHECK.end();
    }

    private static ReversalMesh line(int mode) {
        ReversalMesh x = new ReversalMesh();
        x.goal(2, 1, mode);
        x.up(1, 3);
        x.up(3, 5);
        x.query(5, 2);
        x.drain(100);
        return x;
    }

    private static void packetsGoDown() {
        for (int mode = 0; mode < 3; mode++) {
            ReversalMesh x = line(mode);
            CHECK.due("send", 0, x.send(5, 2, -7));
            packet(x, 0, 5, 2, 0, 0);
            CHECK.due("move", 3, x.move(0));
            packet(x, 0, 3, 2, 1, 0);
            CHECK.due("none is delivered", 0, x.count(4));
            CHECK.due("move", 1, x.move(0));
            packet(x, 0, 1, 2, 2, 1);
            CHECK.due("the word", -7, x.got(2, 0));
            CHECK.due("one is delivered", 1, x.count(4));
        }
    }

    private static void packet(ReversalMesh x, int packet, int node, int goal, int hops, int delivered) {
        CHECK.due("its node", node, x.packet(packet, 0));
        CHECK.due("its goal", goal, x.packet(packet, 1));
        CHECK.due("its hops", hops, x.packet(packet, 2));
        CHECK.due("delivered", delivered, x.packet(packet, 3));
    }

    private static void wordsComeInOrder() {
        ReversalMesh x = line(2);
        x.goal(0, 3, 0);
        x.drain(100);
        CHECK.due("send", 0, x.send(3, 2, Integer.MIN_VALUE));
        CHECK.due("send", 1, x.send(3, 2, Integer.MAX_VALUE));
        CHECK.due("send at the goal", 2, x.send(1, 2, 9));
        CHECK.due("send to another goal", 3, x.send(5, 0, 4));
        packet(x, 2, 1, 2, 0, 1);
        CHECK.due("delivered at once", 9, x.got(2, 0));
        CHECK.due("the later one moves first", 1, x.move(1));
        CHECK.due("to another goal", 3, x.move(3));
        CHECK.due("the earlier one", 1, x.move(0));
        CHECK.due("word 0", 9, x.got(2, 0));
        CHECK.due("word 1", Integer.MAX_VALUE, x.got(2, 1));
        CHECK.due("word 2", Integer.MIN_VALUE, x.got(2, 2));
        CHECK.due("the other goal's word", 4, x.got(0, 0));
        CHECK.due("packets", 4, x.count(3));
        CHECK.due("delivered", 4, x.count(4));
    }

    private static void packetsWaitWithoutNext() {
        ReversalMesh x = line(2);
        CHECK.due("a packet at a node without height", 0, x.send(20, 2, 1));
        CHECK.state("has no next", () -> x.move(0));
        packet(x, 0, 20, 2, 0, 0);
        x.up(20, 5);
        x.drain(100);
        CHECK.state("nor when it sees a height but has none", () -> x.move(0));
        x.query(20, 2);
        x.drain(100);
        CHECK.due("it goes on", 5, x.move(0));
    }

    private static void moveRefuses() {
        ReversalMesh x = line(2);
        CHECK.bounds("no packets", () -> x.move(0));
        x.send(1, 2, 0);
        CHECK.state("delivered at once", () -> x.move(0));
        for (int bad : new int[] {1, -1, 200, Integer.MIN_VALUE, Integer.MAX_VALUE}) {
            CHECK.bounds("no such packet", () -> x.move(bad));
        }
        x.send(3, 2, 0);
        x.move(1);
        CHECK.state("delivered", () -> x.move(1));
        packet(x, 1, 1, 2, 1, 1);
    }

    private static void packetRefuses() {
        ReversalMesh x = line(2);
        CHECK.bounds("no packets", () -> x.packet(0, 0));
        x.send(5, 2, 0);
        for (int bad : new int[] {1, -1, 200, Integer.MIN_VALUE, Integer.MAX_VALUE}) {
            CHECK.bounds("no such packet", () -> x.packet(bad, 0));
        }
        for (int bad : new int[] {4, -1, Integer.MIN_VALUE, Integer.MAX_VALUE}) {
            CHECK.bounds("no such what", () -> x.packet(0, bad));
        }
    }

    private static void gotRefuses() {
        ReversalMesh x = line(2);
        CHECK.bounds("no words", () -> x.got(2, 0));
        x.send(1, 2, 6);
        CHECK.due("a word", 6, x.got(2, 0));
        for (int bad : new int[] {1, -1, Integer.MIN_VALUE, Integer.MAX_VALUE}) {
            CHECK.bounds("no such word", () -> x.got(2, bad));
        }
        CHECK.bounds("the goal was not made", () -> x.got(1, 0));
    }

    private static void twoHundred() {
        ReversalMesh x = line(2);
        for (int packet = 0; packet < 200; packet++) {
            CHECK.due("send", packet, x.send(packet % 2 == 0 ? 1 : 5, 2, 1000 + packet));
        }
        CHECK.thrown("one more", "UnsupportedOperationException", () -> x.send(5, 2, 0));
        CHECK.thrown("one more at the goal", "UnsupportedOperationException", () -> x.send(1, 2, 0));
        CHECK.bounds("one more at no node", () -> x.send(24, 2, 0));
        CHECK.bounds("one more to no goal", () -> x.send(5, 0, 0));
        CHECK.due("packets", 200, x.count(3));
        CHECK.due("delivered", 100, x.count(4));
        CHECK.due("the last one moves", 3, x.move(199));
        CHECK.due("the last word", 1198, x.got(2, 99));
        CHECK.bounds("no packet 200", () -> x.packet(200, 0));
    }
}
