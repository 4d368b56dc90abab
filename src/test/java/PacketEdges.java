/** Promises 13 to 17: packets, words, and what is counted. */
final class PacketEdges {
    private static final Check CHECK = Edges.CHECK;

    private PacketEdges() {
    }

    static void under(Edges edges) {
        send(edges);
        move(edges);
        packet(edges);
        got(edges);
        count(edges);
    }

    private static void send(Edges edges) {
        edges.at("Promise 13: send");
        edges.test("A packet at a node: its number.",
                PacketEdges::sendFromTheFirstToTheLast, PacketEdges::sendFromTheLowestAndTheHighestNode);
        edges.test("UnsupportedOperationException, when there are 200.",
                PacketEdges::sendRefusesThe201st, PacketEdges::sendRefusesThough200AreDelivered);
        edges.test("(At the goal's node it is delivered at once.)",
                PacketEdges::sendAtTheGoal, PacketEdges::sendAtAnotherGoal);
    }

    private static void move(Edges edges) {
        edges.at("Promise 14: move");
        edges.test("A packet goes to the next node: which.",
                PacketEdges::moveToTheGoal, PacketEdges::moveByWhatTheNodeSeesThen);
        edges.test("IndexOutOfBoundsException, when there is no such packet;", PacketEdges::moveRefusesPackets);
        edges.test("IllegalStateException, when it is delivered, or there is no next.",
                PacketEdges::moveRefusesWhatIsDelivered, PacketEdges::moveRefusesWithoutNext);
    }

    private static void packet(Edges edges) {
        edges.at("Promise 15: packet");
        edges.test("Of a packet: its node (what 0), its goal (1), its hops (2), whether it is delivered (3: 1 or 0).",
                PacketEdges::packetOfTheLowestAndTheHighestNumbers, PacketEdges::packetHopByHop);
        edges.test("IndexOutOfBoundsException, when there is no such packet or what.",
                PacketEdges::packetRefusesPackets, PacketEdges::packetRefusesWhats);
    }

    private static void got(Edges edges) {
        edges.at("Promise 16: got");
        edges.test("The k-th word that was delivered at a goal.",
                PacketEdges::gotFromTheFirstToTheLast, PacketEdges::gotByTheirDelivery);
        edges.test("IndexOutOfBoundsException, also when there is none.", PacketEdges::gotRefuses);
    }

    private static void count(Edges edges) {
        edges.at("Promise 17: count");
        edges.test("Links (0), messages that wait (1), now (2), packets (3), packets that are delivered (4).",
                PacketEdges::countOfNothing, PacketEdges::countOfEach, PacketEdges::countOfTheMost,
                PacketEdges::questionsChangeNothing);
        edges.test("NONE for another what.", PacketEdges::countOfAnother);
    }

    private static void isPacket(ReversalMesh x, int packet, int node, int goal, int hops, int delivered) {
        CHECK.due("node of packet " + packet, node, x.packet(packet, 0));
        CHECK.due("goal of packet " + packet, goal, x.packet(packet, 1));
        CHECK.due("hops of packet " + packet, hops, x.packet(packet, 2));
        CHECK.due("packet " + packet + " is delivered", delivered, x.packet(packet, 3));
    }

    private static void sendFromTheFirstToTheLast() {
        ReversalMesh x = new ReversalMesh();
        x.goal(0, 0, 0);
        for (int packet = 0; packet < 200; packet++) {
            CHECK.due("send", packet, x.send(1, 0, 7));
        }
        CHECK.due("packets", 200, x.count(3));
    }

    private static void sendFromTheLowestAndTheHighestNode() {
        ReversalMesh x = new ReversalMesh();
        x.goal(0, 12, 2);
        x.goal(5, 12, 1);
        CHECK.due("send(0, 5, ..)", 0, x.send(0, 5, Integer.MIN_VALUE));
        CHECK.due("send(23, 0, ..), without height", 1, x.send(23, 0, Integer.MAX_VALUE));
        isPacket(x, 0, 0, 5, 0, 0);
        isPacket(x, 1, 23, 0, 0, 0);
    }

    private static void sendRefusesThe201st() {
        Edges.refused(Edges.UNSUPPORTED, Meshes.PACKETS_200, "send(3, 2, 9)", x -> x.send(3, 2, 9));
        Edges.refused(Edges.UNSUPPORTED, Meshes.PACKETS_200, "send(1, 2, 9), at the goal", x -> x.send(1, 2, 9));
        ReversalMesh y = Meshes.packets200();
        CHECK.due("the last one moves", 1, y.move(199));
        CHECK.thrown("one more, though one is delivered", Edges.UNSUPPORTED, () -> y.send(3, 2, 9));
        CHECK.due("its word", 1199, y.got(2, 0));
    }

    private static void sendRefusesThough200AreDelivered() {
        ReversalMesh x = new ReversalMesh();
        x.goal(0, 4, 2);
        x.goal(1, 4, 0);
        for (int packet = 0; packet < 200; packet++) {
            CHECK.due("send", packet, x.send(4, 0, packet));
        }
        CHECK.due("delivered", 200, x.count(4));
        CHECK.thrown("one more", Edges.UNSUPPORTED, () -> x.send(4, 0, 0));
        CHECK.thrown("one more for another goal", Edges.UNSUPPORTED, () -> x.send(4, 1, 0));
        CHECK.bounds("another goal got none", () -> x.got(1, 0));
    }

    private static void sendAtTheGoal() {
        for (int mode = 0; mode <= 2; mode++) {
            ReversalMesh x = new ReversalMesh();
            x.goal(1, 9, mode);
            CHECK.due("send(9, 1, -5)", 0, x.send(9, 1, -5));
            isPacket(x, 0, 9, 1, 0, 1);
            CHECK.due("its word", -5, x.got(1, 0));
            CHECK.due("delivered", 1, x.count(4));
        }
    }

    private static void sendAtAnotherGoal() {
        ReversalMesh x = new ReversalMesh();
        x.goal(0, 8, 0);
        x.goal(1, 9, 0);
        CHECK.due("send(9, 0, 3)", 0, x.send(9, 0, 3));
        isPacket(x, 0, 9, 0, 0, 0);
        CHECK.bounds("goal 1 got none", () -> x.got(1, 0));
        CHECK.due("delivered", 0, x.count(4));
    }

    private static void moveToTheGoal() {
        for (int mode = 0; mode <= 2; mode++) {
            ReversalMesh x = new ReversalMesh();
            x.goal(0, 23, mode);
            x.up(23, 11);
            x.up(11, 0);
            x.query(0, 0);
            x.drain(100);
            x.send(0, 0, 6);
            CHECK.due("move", 11, x.move(0));
            isPacket(x, 0, 11, 0, 1, 0);
            CHECK.due("move", 23, x.move(0));
            isPacket(x, 0, 23, 0, 2, 1);
            CHECK.due("its word", 6, x.got(0, 0));
        }
    }

    /** Node 5 does not yet know that node 3 was raised above it: the packet goes there, and has no next. */
    private static void moveByWhatTheNodeSeesThen() {
        ReversalMesh x = new ReversalMesh();
        x.goal(0, 0, 0);
        x.up(0, 3);
        x.up(3, 5);
        x.drain(100);
        x.send(5, 0, 1);
        x.down(0, 3);
        CHECK.due("3 was raised", 1, x.height(3, 0, 0));
        CHECK.due("move to 3 by what 5 saw", 3, x.move(0));
        CHECK.due("and back, by what 3 saw", 5, x.move(0));
        x.step(3, 5);
        CHECK.due("5 was raised above 3", 2, x.height(5, 0, 0));
        CHECK.due("move", 3, x.move(0));
        CHECK.due("and back, since 3 does not know", 5, x.move(0));
        isPacket(x, 0, 5, 0, 4, 0);
    }

    private static void moveRefusesPackets() {
        for (int bad : Edges.beyond(0, 2)) {
            Edges.refused(Edges.BOUNDS, Meshes.BUSY, "move(" + bad + ")", x -> x.move(bad));
        }
        for (int bad : Edges.beyond(0, 199)) {
            Edges.refused(Edges.BOUNDS, Meshes.PACKETS_200, "move(" + bad + ")", x -> x.move(bad));
        }
        CHECK.bounds("move(0) of none", () -> new ReversalMesh().move(0));
    }

    private static void moveRefusesWhatIsDelivered() {
        Edges.refused(Edges.STATE, Meshes.BUSY, "move(0), delivered at once", x -> x.move(0));
        ReversalMesh y = Meshes.packets200();
        CHECK.due("move(0)", 1, y.move(0));
        CHECK.state("move(0), it arrived", () -> y.move(0));
        CHECK.due("delivered", 1, y.count(4));
        isPacket(y, 0, 1, 2, 1, 1);
    }

    private static void moveRefusesWithoutNext() {
        Edges.refused(Edges.STATE, Meshes.BUSY, "move(2), without height", x -> x.move(2));
        ReversalMesh y = new ReversalMesh();
        y.goal(0, 0, 0);
        y.up(0, 1);
        y.send(1, 0, 4);
        CHECK.state("move(0), nothing is seen yet", () -> y.move(0));
        isPacket(y, 0, 1, 0, 0, 0);
        y.step(0, 1);
        CHECK.due("move(0)", 0, y.move(0));
    }

    private static void packetOfTheLowestAndTheHighestNumbers() {
        ReversalMesh x = new ReversalMesh();
        x.goal(0, 23, 2);
        x.goal(5, 0, 1);
        x.send(0, 0, 1);
        x.send(23, 5, 1);
        isPacket(x, 0, 0, 0, 0, 0);
        isPacket(x, 1, 23, 5, 0, 0);
        ReversalMesh y = Meshes.packets200();
        isPacket(y, 0, 3, 2, 0, 0);
        isPacket(y, 199, 3, 2, 0, 0);
        y.move(199);
        isPacket(y, 199, 1, 2, 1, 1);
        isPacket(y, 198, 3, 2, 0, 0);
    }

    private static void packetHopByHop() {
        ReversalMesh x = Meshes.line(0, 1, 2, 3, 4);
        x.send(4, 0, 8);
        for (int hops = 0; hops <= 4; hops++) {
            isPacket(x, 0, 4 - hops, 0, hops, hops == 4 ? 1 : 0);
            if (hops < 4) {
                x.move(0);
            }
        }
    }

    private static void packetRefusesPackets() {
        for (int what = 0; what <= 3; what++) {
            int told = what;
            for (int bad : Edges.beyond(0, 2)) {
                Edges.refused(Edges.BOUNDS, Meshes.BUSY, "packet(" + bad + ", " + told + ")",
                        x -> x.packet(bad, told));
            }
        }
        ReversalMesh y = Meshes.packets200();
        CHECK.bounds("packet(200, 0)", () -> y.packet(200, 0));
        CHECK.bounds("packet(0, 0) of none", () -> new ReversalMesh().packet(0, 0));
    }

    private static void packetRefusesWhats() {
        for (int bad : Edges.beyond(0, 3)) {
            Edges.refused(Edges.BOUNDS, Meshes.BUSY, "packet(0, " + bad + ")", x -> x.packet(0, bad));
        }
    }

    private static void gotFromTheFirstToTheLast() {
        ReversalMesh x = new ReversalMesh();
        x.goal(5, 23, 2);
        for (int k = 0; k < 200; k++) {
            x.send(23, 5, 3000 - k);
        }
        for (int k = 0; k < 200; k++) {
            CHECK.due("got(5, " + k + ")", 3000 - k, x.got(5, k));
        }
        CHECK.bounds("got(5, 200)", () -> x.got(5, 200));
        CHECK.bounds("got(5, -1)", () -> x.got(5, -1));
    }

    private static void gotByTheirDelivery() {
        ReversalMesh x = Meshes.packets200();
        x.goal(0, 3, 2);
        int[] order = {7, 199, 0, 100};
        for (int packet : order) {
            x.move(packet);
        }
        for (int k = 0; k < order.length; k++) {
            CHECK.due("got(2, " + k + ")", 1000 + order[k], x.got(2, k));
        }
        CHECK.bounds("got(2, 4)", () -> x.got(2, 4));
        CHECK.bounds("got(0, 0), of another goal", () -> x.got(0, 0));
    }

    private static void gotRefuses() {
        for (int bad : Edges.beyond(0, 0)) {
            Edges.refused(Edges.BOUNDS, Meshes.BUSY, "got(0, " + bad + ")", x -> x.got(0, bad));
        }
        Edges.refused(Edges.BOUNDS, Meshes.BUSY, "got(1, 0), none was delivered", x -> x.got(1, 0));
        Edges.refused(Edges.BOUNDS, Meshes.BUSY, "got(0, 199)", x -> x.got(0, 199));
        Edges.refused(Edges.BOUNDS, Meshes.BUSY, "got(0, 200)", x -> x.got(0, 200));
    }

    private static void countOfNothing() {
        int[] want = {0, 0, 1, 0, 0};
        for (int what = 0; what <= 4; what++) {
            CHECK.due("count(" + what + ")", want[what], new ReversalMesh().count(what));
        }
    }

    private static void countOfEach() {
        int[] want = {10, 25, 7, 3, 1};
        for (int what = 0; what <= 4; what++) {
            CHECK.due("count(" + what + ")", want[what], Meshes.busy().count(what));
        }
    }

    /** All 72 links, over each of which six goals are told both ways. */
    private static void countOfTheMost() {
        ReversalMesh x = Meshes.allLinks();
        CHECK.due("links", 72, x.count(0));
        for (int g = 0; g < 6; g++) {
            x.goal(g, g, g % 2);
            CHECK.due("messages", 144 * (g + 1), x.count(1));
        }
        CHECK.due("drain(1)", 1, x.drain(1));
        CHECK.due("one less", 863, x.count(1));
        for (int packet = 0; packet < 200; packet++) {
            x.send(0, 0, packet);
        }
        CHECK.due("packets", 200, x.count(3));
        CHECK.due("delivered", 200, x.count(4));
    }

    /** What only asks leaves all as it was, with an answer or without. */
    private static void questionsChangeNothing() {
        Edges.unchanged(Meshes.BUSY, "a row of questions", x -> {
            long sum = x.next(4, 0) + x.height(4, 0, 3) + x.saw(4, 3, 0, 3) + x.state(4, 0, 2);
            return sum + x.packet(1, 2) + x.got(0, 0) + x.count(1) + x.count(5);
        });
    }

    private static void countOfAnother() {
        for (int bad : Edges.beyond(0, 4)) {
            CHECK.due("count(" + bad + ")", ReversalMesh.NONE, Meshes.busy().count(bad));
            CHECK.due("count(" + bad + ") of a new one", -1, new ReversalMesh().count(bad));
        }
    }
}
