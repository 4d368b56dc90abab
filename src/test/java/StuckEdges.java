/** Modes 0 and 1: heights that all nodes have, and when and how a stuck node raises itself. */
final class StuckEdges {
    private static final Check CHECK = Edges.CHECK;

    private StuckEdges() {
    }

    static void under(Edges edges) {
        edges.at("Terms");
        edges.test("MODE 0 FULL: heights (a, 0, 0, 0, node), MODE 1 PARTIAL: (a, b, 0, 0, node): a is -1 at the goal,"
                + " 0 at all others, b is 0 at first.",
                StuckEdges::heightsAtFirst);
        edges.test("When the goal is made, all nodes tell their heights, by their numbers.",
                StuckEdges::goalIsToldOverNoLink, StuckEdges::goalIsToldOverOneLink, StuckEdges::goalIsToldOverAllLinks,
                StuckEdges::goalIsToldOverAFullWay);
        edges.test("Delivered, a HEIGHT is what the receiver saw.",
                () -> bothModes(StuckEdges::heightIsSeen));
        edges.test("A node that is not the goal is STUCK, when it has neighbours, saw a height of each, and none is"
                + " lower.",
                () -> bothModes(StuckEdges::goalIsNotStuck), () -> bothModes(StuckEdges::aloneIsNotStuck),
                () -> bothModes(StuckEdges::stuckOfOneNeighbour), () -> bothModes(StuckEdges::stuckOfSixNeighbours),
                () -> bothModes(StuckEdges::oneLowerIsEnough));
        edges.test("It is asked whether it is when a HEIGHT was delivered to it, and when it lost a link.",
                () -> bothModes(StuckEdges::askedAtAHeight), () -> bothModes(StuckEdges::askedAtALostLink),
                () -> bothModes(StuckEdges::notStuckAtALostLink));
        edges.test("Stuck, FULL: a becomes 1 more than the greatest a that it saw.",
                StuckEdges::fullAboveOne, StuckEdges::fullAboveTheGreatest, StuckEdges::fullWithoutALostNeighbour,
                () -> isHeight(sixAtTheHighestNode(0), 23, 7, 0));
        edges.test("PARTIAL: a becomes 1 more than the least a that it saw;",
                StuckEdges::partialAboveOne, StuckEdges::partialAboveTheLeast,
                StuckEdges::partialWithoutALostNeighbour);
        edges.test("if it saw some with this new a, b becomes 1 less than the least b of these.",
                StuckEdges::partialBesideNone, StuckEdges::partialBesideOne, StuckEdges::partialBesideSeveral,
                StuckEdges::partialBesideALostNeighbour, StuckEdges::partialKeepsItsB,
                () -> isHeight(sixAtTheHighestNode(1), 23, 2, -1));
        edges.test("Then it tells its height.", () -> bothModes(StuckEdges::raisedIsTold));
    }

    private interface OfMode {
        void test(int mode);
    }

    private static void bothModes(OfMode test) {
        test.test(0);
        test.test(1);
    }

    private static ReversalMesh meshOf(int mode, int home) {
        ReversalMesh x = new ReversalMesh();
        x.goal(0, home, mode);
        return x;
    }

    private static void isHeight(ReversalMesh x, int node, int a, int b) {
        CHECK.due("a of " + node, a, x.height(node, 0, 0));
        CHECK.due("b of " + node, b, x.height(node, 0, 1));
        CHECK.due("field 2 of " + node, 0, x.height(node, 0, 2));
        CHECK.due("field 3 of " + node, 0, x.height(node, 0, 3));
        CHECK.due("field 4 of " + node, node, x.height(node, 0, 4));
    }

    /**
     * Two nodes that see each other alone raise each other by turns, until one of them has that a: the lower one
     * when it is odd, the higher one when it is even. Their b stays 0.
     */
    static void pair(ReversalMesh x, int low, int high, int a) {
        x.up(low, high);
        x.step(low, high);
        for (int raised = 1; raised <= a; raised++) {
            if (raised % 2 == 1) {
                x.step(high, low);
            } else {
                x.step(low, high);
            }
        }
    }

    private static void heightsAtFirst() {
        for (int mode = 0; mode <= 1; mode++) {
            for (int home : new int[] {0, 11, 23}) {
                ReversalMesh x = meshOf(mode, home);
                for (int node = 0; node < 24; node++) {
                    isHeight(x, node, node == home ? -1 : 0, 0);
                }
            }
        }
    }

    private static void goalIsToldOverNoLink() {
        for (int mode = 0; mode <= 2; mode++) {
            CHECK.due("none is told, mode " + mode, 0, meshOf(mode, 0).count(1));
        }
    }

    private static void goalIsToldOverOneLink() {
        for (int mode = 0; mode <= 1; mode++) {
            ReversalMesh x = new ReversalMesh();
            x.up(23, 0);
            x.goal(0, 23, mode);
            CHECK.due("both tell", 2, x.count(1));
            CHECK.due("step(23, 0)", 1, x.step(23, 0));
            CHECK.due("the goal's a", -1, x.saw(0, 23, 0, 0));
            CHECK.due("step(0, 23)", 1, x.step(0, 23));
            CHECK.due("the other one's a", 0, x.saw(23, 0, 0, 0));
        }
    }

    private static void goalIsToldOverAllLinks() {
        for (int mode = 0; mode <= 1; mode++) {
            ReversalMesh x = Meshes.allLinks();
            x.goal(0, 5, mode);
            CHECK.due("both ways of 72", 144, x.count(1));
            for (int node = 0; node < 24; node++) {
                for (int far = 1; far <= 3; far++) {
                    CHECK.due("step", 1, x.step(node, (node + far) % 24));
                    CHECK.due("step", 1, x.step((node + far) % 24, node));
                }
            }
        }
    }

    private static void goalIsToldOverAFullWay() {
        for (int mode = 0; mode <= 1; mode++) {
            ReversalMesh x = Meshes.fullWay();
            int before = x.count(1);
            x.goal(1, 1, mode);
            CHECK.due("of six one is lost", before + 5, x.count(1));
            for (int k = 0; k < 64; k++) {
                CHECK.due("of goal 0", 1, x.step(1, 10));
            }
            CHECK.state("none of goal 1", () -> x.step(1, 10));
        }
    }

    private static void heightIsSeen(int mode) {
        ReversalMesh x = meshOf(mode, 0);
        x.up(0, 1);
        CHECK.state("nothing yet", () -> x.saw(1, 0, 0, 0));
        x.step(0, 1);
        int[] want = {-1, 0, 0, 0, 0};
        for (int field = 0; field <= 4; field++) {
            CHECK.due("saw(1, 0, 0, " + field + ")", want[field], x.saw(1, 0, 0, field));
        }
        x.step(1, 0);
        CHECK.due("the goal saw too", 1, x.saw(0, 1, 0, 4));
        pair(x, 5, 6, 0);
        CHECK.due("first", 0, x.saw(6, 5, 0, 0));
        x.step(6, 5);
        CHECK.due("not before it is delivered", 0, x.saw(6, 5, 0, 0));
        x.step(5, 6);
        CHECK.due("the later one in its place", 1, x.saw(6, 5, 0, 0));
    }

    private static void goalIsNotStuck(int mode) {
        ReversalMesh x = meshOf(mode, 1);
        x.up(1, 0);
        x.up(1, 2);
        CHECK.due("drain", 4, x.drain(100));
        CHECK.due("the goal saw all", 0, x.saw(1, 0, 0, 0));
        x.down(1, 2);
        isHeight(x, 1, -1, 0);
        CHECK.due("given none", 0, x.state(1, 0, 2));
        CHECK.due("nothing is told", 0, x.count(1));
    }

    private static void aloneIsNotStuck(int mode) {
        ReversalMesh x = meshOf(mode, 0);
        x.up(0, 1);
        x.drain(100);
        x.down(0, 1);
        isHeight(x, 1, 0, 0);
        CHECK.due("given none", 0, x.state(1, 0, 2));
        CHECK.due("nothing is told", 0, x.count(1));
    }

    private static void stuckOfOneNeighbour(int mode) {
        ReversalMesh x = meshOf(mode, 23);
        x.up(1, 2);
        CHECK.due("saw none", 0, x.state(1, 0, 2));
        x.step(1, 2);
        CHECK.due("2 has a lower one", 0, x.state(2, 0, 2));
        x.step(2, 1);
        CHECK.due("1 has not", 1, x.state(1, 0, 2));
    }

    private static void stuckOfSixNeighbours(int mode) {
        ReversalMesh x = meshOf(mode, 23);
        for (int other = 4; other <= 9; other++) {
            x.up(3, other);
        }
        for (int other = 4; other <= 8; other++) {
            x.step(other, 3);
            CHECK.due("saw " + (other - 3) + " of six", 0, x.state(3, 0, 2));
        }
        x.step(9, 3);
        CHECK.due("saw six", 1, x.state(3, 0, 2));
        isHeight(x, 3, 1, 0);
    }

    private static void oneLowerIsEnough(int mode) {
        ReversalMesh x = meshOf(mode, 23);
        for (int other : new int[] {2, 4, 5, 6, 7, 8}) {
            x.up(3, other);
        }
        for (int other : new int[] {8, 7, 6, 5, 4, 2}) {
            x.step(other, 3);
        }
        CHECK.due("not stuck", 0, x.state(3, 0, 2));
        CHECK.due("by its one lower neighbour", 2, x.next(3, 0));
        x.down(3, 2);
        CHECK.due("stuck without it", 1, x.state(3, 0, 2));
    }

    private static void askedAtAHeight(int mode) {
        ReversalMesh x = meshOf(mode, 23);
        x.up(1, 2);
        x.up(1, 3);
        x.step(2, 1);
        CHECK.due("3 is not seen", 0, x.state(1, 0, 2));
        x.step(3, 1);
        CHECK.due("both are seen", 1, x.state(1, 0, 2));
        x.up(1, 4);
        CHECK.due("not by a link that appears", 1, x.state(1, 0, 2));
    }

    /** Node 1 waits for what node 3 tells; when that link vanishes, it saw all that is left. */
    private static void askedAtALostLink(int mode) {
        ReversalMesh x = meshOf(mode, 23);
        x.up(1, 2);
        x.up(1, 3);
        x.step(2, 1);
        CHECK.due("3 is not seen", 0, x.state(1, 0, 2));
        x.down(3, 1);
        CHECK.due("2 is all that is left", 1, x.state(1, 0, 2));
        isHeight(x, 1, 1, 0);
        CHECK.due("3 is alone", 0, x.state(3, 0, 2));
    }

    private static void notStuckAtALostLink(int mode) {
        ReversalMesh x = meshOf(mode, 0);
        x.up(0, 1);
        x.up(1, 2);
        x.up(1, 3);
        x.step(0, 1);
        x.step(2, 1);
        x.down(1, 2);
        CHECK.due("the goal is left", 0, x.state(1, 0, 2));
        x.down(1, 0);
        CHECK.due("3 is not seen", 0, x.state(1, 0, 2));
        x.down(1, 3);
        CHECK.due("no neighbour is left", 0, x.state(1, 0, 2));
    }

    private static void fullAboveOne() {
        ReversalMesh x = meshOf(0, 23);
        x.up(1, 2);
        x.step(2, 1);
        isHeight(x, 1, 1, 0);
        x.step(1, 2);
        x.step(1, 2);
        isHeight(x, 2, 2, 0);
        x.step(2, 1);
        isHeight(x, 1, 3, 0);
    }

    /** Node 9 sees a 3, 5, 1 and 4: the greatest is neither the first nor the last one. */
    private static ReversalMesh fourNeighbours(int mode) {
        ReversalMesh x = meshOf(mode, 23);
        pair(x, 1, 2, 3);
        pair(x, 3, 4, 5);
        pair(x, 5, 6, 1);
        pair(x, 7, 8, 4);
        int[] others = {1, 3, 5, 8};
        for (int other : others) {
            x.up(9, other);
        }
        for (int other : others) {
            CHECK.due("not stuck yet", 0, x.state(9, 0, 2));
            x.step(other, 9);
        }
        CHECK.due("stuck", 1, x.state(9, 0, 2));
        return x;
    }

    private static void fullAboveTheGreatest() {
        isHeight(fourNeighbours(0), 9, 6, 0);
    }

    /** Node 9 saw a 4 of node 8, but lost that link. */
    private static void fullWithoutALostNeighbour() {
        ReversalMesh x = meshOf(0, 23);
        pair(x, 1, 2, 1);
        pair(x, 3, 4, 3);
        pair(x, 7, 8, 4);
        see(x, 9, 8, 1);
        isHeight(x, 9, 5, 0);
        ReversalMesh y = meshOf(0, 23);
        pair(y, 1, 2, 1);
        pair(y, 3, 4, 3);
        pair(y, 7, 8, 4);
        y.up(9, 3);
        see(y, 9, 8, 1);
        y.down(9, 8);
        isHeight(y, 9, 0, 0);
        y.step(3, 9);
        isHeight(y, 9, 4, 0);
    }

    /** Node 23 sees the a 1 to 6 of six neighbours, all with b 0: the greatest one last. */
    private static ReversalMesh sixAtTheHighestNode(int mode) {
        ReversalMesh x = meshOf(mode, 0);
        for (int a = 1; a <= 6; a++) {
            pair(x, 2 * a, 2 * a + 1, a);
        }
        see(x, 23, 2, 5, 6, 9, 10, 13);
        CHECK.due("stuck once", 1, x.state(23, 0, 2));
        return x;
    }

    private static void partialAboveOne() {
        ReversalMesh x = meshOf(1, 23);
        x.up(1, 2);
        x.step(2, 1);
        isHeight(x, 1, 1, 0);
        x.step(1, 2);
        x.step(1, 2);
        isHeight(x, 2, 2, 0);
    }

    private static void partialAboveTheLeast() {
        isHeight(fourNeighbours(1), 9, 2, 0);
    }

    /** Node 9 saw a 1 of node 5, but lost that link. */
    private static void partialWithoutALostNeighbour() {
        ReversalMesh x = meshOf(1, 23);
        pair(x, 1, 2, 3);
        pair(x, 3, 4, 4);
        pair(x, 5, 6, 1);
        x.up(9, 4);
        see(x, 9, 1, 5);
        x.down(9, 5);
        isHeight(x, 9, 0, 0);
        x.step(4, 9);
        isHeight(x, 9, 4, -1);
    }

    /** Node 9 sees a 1 and a 3: its new a is 2, which is that of nobody. */
    private static void partialBesideNone() {
        ReversalMesh x = meshOf(1, 23);
        pair(x, 1, 2, 1);
        pair(x, 3, 4, 3);
        see(x, 9, 1, 3);
        isHeight(x, 9, 2, 0);
    }

    private static void see(ReversalMesh x, int node, int... others) {
        for (int other : others) {
            x.up(node, other);
        }
        for (int other : others) {
            x.step(other, node);
        }
    }

    /** Node 9 sees a 1 and a 2, the latter with b 0. */
    private static ReversalMesh besideOne() {
        ReversalMesh x = meshOf(1, 23);
        pair(x, 1, 2, 1);
        pair(x, 3, 4, 2);
        see(x, 9, 4, 1);
        return x;
    }

    private static void partialBesideOne() {
        isHeight(besideOne(), 9, 2, -1);
    }

    /** Node 12 sees a 1, and a 2 with b 0, -1 and 0. */
    private static void partialBesideSeveral() {
        ReversalMesh x = besideOne();
        pair(x, 5, 6, 2);
        pair(x, 7, 8, 1);
        see(x, 12, 4, 9, 6, 7);
        isHeight(x, 12, 2, -2);
    }

    /** Node 12 saw a 2 with b -1 of node 9, but lost that link. */
    private static void partialBesideALostNeighbour() {
        ReversalMesh x = besideOne();
        pair(x, 7, 8, 1);
        x.up(12, 7);
        see(x, 12, 4, 9);
        x.down(12, 9);
        isHeight(x, 12, 0, 0);
        x.step(7, 12);
        isHeight(x, 12, 2, -1);
    }

    /** Node 9 has b -1; then it sees a 5 alone, and nobody has its new a. */
    private static void partialKeepsItsB() {
        ReversalMesh x = besideOne();
        pair(x, 5, 6, 5);
        x.up(9, 5);
        x.down(9, 1);
        x.down(9, 4);
        isHeight(x, 9, 2, -1);
        x.step(5, 9);
        isHeight(x, 9, 6, -1);
        CHECK.due("given twice", 2, x.state(9, 0, 2));
    }

    private static void raisedIsTold(int mode) {
        ReversalMesh x = meshOf(mode, 23);
        for (int other = 4; other <= 9; other++) {
            x.up(3, other);
            x.step(3, other);
        }
        for (int other = 4; other <= 9; other++) {
            x.step(other, 3);
        }
        CHECK.due("six are told", 6, x.count(1));
        for (int other = 4; other <= 9; other++) {
            CHECK.due("step(3, " + other + ")", 1, x.step(3, other));
            CHECK.due("the new a", 1, x.saw(other, 3, 0, 0));
        }
    }
}
