/** What the class is as a whole, and how much of it is promised: 512 calls on one object. */
final class WholeEdges {
    private static final Check CHECK = Edges.CHECK;
    private static final int CALLS = 512;

    private WholeEdges() {
    }

    static void under(Edges edges) {
        edges.at("What it is");
        edges.test("A mesh of radios that drift in and out of reach: for each goal every node keeps a height, what it"
                + " sends flows down; a node that has no lower neighbour left raises itself by one of three rules,"
                + " and notices, by the third, that it is cut off.",
                WholeEdges::threeRulesOverOneMesh);
        // no test asks an object more than 512 times, but for one that asks whether later calls end
        edges.test("An object is used for at most 512 calls after it has been made; what later calls answer is free.",
                WholeEdges::the512thTime, WholeEdges::the512thDrain, WholeEdges::the512thLink,
                WholeEdges::the512thRefusal, WholeEdges::the512thQuestion, WholeEdges::laterCallsEnd);
    }

    private static void threeRulesOverOneMesh() {
        ReversalMesh x = new ReversalMesh();
        for (int mode = 0; mode <= 2; mode++) {
            x.goal(mode, 0, mode);
        }
        x.up(0, 1);
        x.up(1, 2);
        x.query(2, 2);
        x.drain(100);
        for (int mode = 0; mode <= 2; mode++) {
            int packet = x.send(2, mode, 40 + mode);
            CHECK.due("it flows down", 1, x.move(packet));
            CHECK.due("to the goal", 0, x.move(packet));
            CHECK.due("with its word", 40 + mode, x.got(mode, 0));
        }
        x.down(0, 1);
        x.drain(20);
        CHECK.yes("FULL: 1 raises itself", x.height(1, 0, 0) > 0);
        CHECK.yes("PARTIAL: 1 raises itself", x.height(1, 1, 0) > 0);
        CHECK.due("FIVE: 1 notices", 1, x.state(1, 2, 3));
        CHECK.due("FIVE: 1 has no height", 0, x.state(1, 2, 0));
        CHECK.due("by the third alone", 0, x.state(1, 0, 3) + x.state(1, 1, 3));
    }

    private static void the512thTime() {
        ReversalMesh x = new ReversalMesh();
        for (int call = 1; call <= CALLS; call++) {
            CHECK.due("time(1000), call " + call, 1 + 1000 * call, x.time(1000));
        }
    }

    /** Nodes 1 and 2 raise each other: 509 drains deliver over a million messages. */
    private static void the512thDrain() {
        for (int mode = 0; mode <= 1; mode++) {
            ReversalMesh x = new ReversalMesh();
            x.goal(5, 0, mode);
            x.up(1, 2);
            for (int call = 3; call < CALLS; call++) {
                CHECK.due("drain(2000), call " + call, 2000, x.drain(2000));
            }
            // the first message raises nobody; each later one raises its receiver to 1 above its sender
            CHECK.due("height, call 512", 509 * 2000 - 1, x.height(1, 5, 0));
        }
    }

    private static void the512thLink() {
        ReversalMesh x = new ReversalMesh();
        x.goal(0, 0, 2);
        for (int call = 2; call < CALLS; call += 2) {
            CHECK.due("up(0, 1), call " + call, 1, x.up(0, 1));
            CHECK.due("down(1, 0), call " + (call + 1), 1, x.down(1, 0));
        }
        CHECK.due("up(1, 0), call 512", 1, x.up(1, 0));
    }

    private static void the512thRefusal() {
        ReversalMesh x = new ReversalMesh();
        for (int call = 1; call < CALLS; call++) {
            CHECK.state("step(0, 1), call " + call, () -> x.step(0, 1));
        }
        CHECK.due("count(1), call 512", 0, x.count(1));
    }

    private static void the512thQuestion() {
        ReversalMesh x = Meshes.packets200();
        // 203 calls made it
        for (int packet = 0; packet < 154; packet++) {
            CHECK.due("move", 1, x.move(packet));
            CHECK.due("got", 1000 + packet, x.got(2, packet));
        }
        CHECK.due("delivered, call 512", 154, x.count(4));
    }

    /** What is answered is free, but every call comes to an end, and the machine throws nothing of its own. */
    private static void laterCallsEnd() {
        ReversalMesh x = Meshes.busy();
        for (int call = 0; call < 3 * CALLS; call++) {
            int node = call % 24;
            String[] answers = {
                Check.outcome(() -> x.up(node, (node + 1) % 24)), Check.outcome(() -> x.drain(9)),
                Check.outcome(() -> x.time(1000)), Check.outcome(() -> x.send(node, 1, 0)),
                Check.outcome(() -> x.query(node, 0) ? 1 : 0)};
            for (String answer : answers) {
                CHECK.yes("a call after the 512th gave " + answer, answer.matches(
                        "-?[0-9]+|throws (IllegalState|UnsupportedOperation)Exception"));
            }
        }
    }
}
