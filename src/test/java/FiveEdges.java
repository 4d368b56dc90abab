/** Mode 2: asking, finding, yielding, noticing, clearing, lost links. Goal 0 is node 0, unless a test makes another. */
final class FiveEdges {
    private static final Check CHECK = Edges.CHECK;

    private FiveEdges() {
    }

    static void under(Edges edges) {
        edges.at("Terms");
        edges.test("MODE 2 FIVE: heights (time, origin, bit, depth, node); the first three are its LEVEL."
                + " The goal has (0, 0, 0, 0, goal), all others none at first.",
                FiveEdges::heightsAtFirst, FiveEdges::nothingIsToldAtFirst);
        edges.test("query() at a node without height that is not asking: it asks: it sends an ASK to each neighbour,"
                + " and is asking.",
                FiveEdges::queryWithoutHeight, FiveEdges::queryThoughItSawOne, FiveEdges::queryOfAnAsker,
                FiveEdges::queryWithAHeight);
        askDelivered(edges);
        heightDelivered(edges);
        clearDelivered(edges);
        yielding(edges);
        edges.test("A link lost: what was seen there is gone.",
                FiveEdges::lostLinkTakesWhatWasSeen, FiveEdges::lostLinkOfANodeWithoutHeight);
        edges.test("With a height, not the goal, and without a lower neighbour: without neighbours it has none then;"
                + " else it has level (now, itself, 0), depth 0, and tells it.",
                FiveEdges::lostLinkOfTheGoal, FiveEdges::lostLinkWithALowerNeighbour, FiveEdges::lostLastLink,
                FiveEdges::lostLinkWithOthersUnseen, FiveEdges::lostLinkWithOthersHigher);
    }

    private static void askDelivered(Edges edges) {
        edges.test("ASK delivered: a receiver with a height sends a HEIGHT to the sender;",
                FiveEdges::askAtTheGoal, FiveEdges::askAtANodeWithAHeight);
        edges.test("one without that saw some height FINDS one;",
                FiveEdges::askAtOneThatSaw, FiveEdges::askAtAnAskerThatSaw);
        edges.test("else, if it is not asking, it asks.",
                FiveEdges::askAtOneThatSawNone, FiveEdges::askAtAnAskerThatSawNone);
        edges.test("To find: of the lowest height that it saw, the same level, and depth 1 more; it is not asking,"
                + " and tells its height.",
                FiveEdges::findOfOne, FiveEdges::findTheLowestTime, FiveEdges::findTheLowestOrigin,
                FiveEdges::findTheLowestBit, FiveEdges::findTheLowestDepth, FiveEdges::findADepthBelowZero);
    }

    private static void heightDelivered(Edges edges) {
        edges.test("HEIGHT delivered: it is what the receiver saw.",
                FiveEdges::heightAtOneWithout, FiveEdges::heightAtTheGoal, FiveEdges::heightInThePlaceOfAnother);
        edges.test("Asking, it finds one.", FiveEdges::heightAtAnAsker);
        edges.test("With a height, not the goal, and without a lower neighbour: it YIELDS.",
                FiveEdges::heightAtOneWithALowerNeighbour, FiveEdges::heightAtOneWithoutALowerNeighbour,
                FiveEdges::heightAtTheGoalNeverYields);
    }

    private static void clearDelivered(Edges edges) {
        edges.test("CLEAR (t, o) delivered: when the receiver, not the goal, has a height of level (t, o, 1): it has"
                + " none then, saw none of any neighbour but the goal, is not asking, and sends CLEAR (t, o) to each"
                + " neighbour.",
                FiveEdges::clearOfItsLevel, FiveEdges::clearBesideTheGoal, FiveEdges::clearWithTheGoalElsewhere,
                FiveEdges::clearGoesOn);
        edges.test("Else: of neighbours that it saw with that level it saw none;",
                FiveEdges::clearAtOneWithout, FiveEdges::clearAtOneWithSix, FiveEdges::clearAtAnAsker,
                FiveEdges::clearAtTheGoal,
                FiveEdges::clearOfTheSameLevelWithBit0, FiveEdges::clearOfAnotherTime,
                FiveEdges::clearOfAnotherOrigin);
        edges.test("and with a height, not the goal, and without a lower neighbour it yields.",
                FiveEdges::clearLeavesALowerNeighbour, FiveEdges::clearLeavesHigherOnes);
    }

    private static void yielding(Edges edges) {
        edges.test("To yield: by what it saw of its neighbours that have heights; when there are none, it has no"
                + " height then.",
                FiveEdges::yieldByThoseSeen, FiveEdges::yieldToNothing);
        edges.test("Not all of one level: the greatest level (by the first field in which they differ), depth 1 less"
                + " than the least one with it.",
                FiveEdges::yieldToTheGreatestTime, FiveEdges::yieldToTheGreatestOrigin,
                FiveEdges::yieldToTheGreatestBit, FiveEdges::yieldBelowTheLeastDepth,
                FiveEdges::yieldBelowADepthBelowZero);
        edges.test("All of one level (t, o, b): with b 0: level (t, o, 1), depth 0.",
                FiveEdges::yieldToOneOfBit0, FiveEdges::yieldToSeveralOfBit0, FiveEdges::yieldOfTheHighestNode,
                FiveEdges::yieldToTheGoalsLevel);
        edges.test("With b 1, o being itself: it NOTICES that it is cut off: it has no height then, saw none of any"
                + " neighbour but the goal, and sends CLEAR (t, o) to each neighbour.",
                FiveEdges::noticeOverOne, FiveEdges::noticeOverSeveral, FiveEdges::noticeOfNodeZero);
        edges.test("With b 1, another o: level (now, itself, 0), depth 0.",
                FiveEdges::yieldToAnothersBit1, FiveEdges::yieldToTheHeightThatItHas);
        edges.test("With a new height it tells it.", FiveEdges::yieldIsTold);
    }

    private static ReversalMesh mesh() {
        ReversalMesh x = new ReversalMesh();
        x.goal(0, 0, 2);
        return x;
    }

    private static void isHeight(ReversalMesh x, int node, int time, int origin, int bit, int depth) {
        int[] want = {time, origin, bit, depth, node};
        CHECK.due(node + " has a height", 1, x.state(node, 0, 0));
        for (int field = 0; field < 5; field++) {
            CHECK.due("field " + field + " of " + node, want[field], x.height(node, 0, field));
        }
    }

    private static void isWithout(ReversalMesh x, int node) {
        CHECK.due(node + " has a height", 0, x.state(node, 0, 0));
        CHECK.state("height of " + node, () -> x.height(node, 0, 0));
        CHECK.due("next of " + node, -1, x.next(node, 0));
    }

    private static void sawNone(ReversalMesh x, int node, int other) {
        CHECK.state(node + " saw " + other, () -> x.saw(node, other, 0, 0));
    }

    private static void steps(ReversalMesh x, int from, int to, int... codes) {
        for (int code : codes) {
            CHECK.due("step(" + from + ", " + to + ")", code, x.step(from, to));
        }
    }

    /** A node finds (0, 0, 0, 1) over the goal. */
    private static void lean(ReversalMesh x, int node) {
        x.query(node, 0);
        x.up(0, node);
        x.step(0, node);
    }

    /** A node asks over a new link to another one, which has a height, and finds its own, with depth 1 more. */
    private static void follow(ReversalMesh x, int node, int other) {
        x.query(node, 0);
        x.up(node, other);
        x.step(other, node);
    }

    /** The same, and what they sent each other is delivered. */
    private static void followForGood(ReversalMesh x, int node, int other) {
        follow(x, node, other);
        steps(x, node, other, 0, 1);
        steps(x, other, node, 1);
    }

    /** A node gets the level (now, node, 0): it loses the goal, but has one neighbour, 12 above itself. */
    private static void begin(ReversalMesh x, int node) {
        lean(x, node);
        x.up(node, node + 12);
        x.down(0, node);
    }

    /** A mesh in which these nodes have the levels (1, themselves, 0). */
    static ReversalMesh two(int one, int other) {
        ReversalMesh x = mesh();
        begin(x, one);
        begin(x, other);
        return x;
    }

    /** Node 5 has the level (now, 5, 0), node 2 the level (now, 5, 1), which node 5 has not seen. */
    private static void reflect(ReversalMesh x) {
        lean(x, 5);
        follow(x, 2, 5);
        steps(x, 2, 5, 0, 1);
        x.down(0, 5);
        steps(x, 5, 2, 1, 1);
        isHeight(x, 2, x.count(2), 5, 1, 0);
    }

    /** A new neighbour, without a height, asks a node: what the node saw before is all that it can find from. */
    private static void askFrom(ReversalMesh x, int asker, int node) {
        x.query(asker, 0);
        x.up(asker, node);
        steps(x, asker, node, 0);
    }

    private static void see(ReversalMesh x, int node, int other) {
        x.up(node, other);
        x.step(other, node);
    }

    private static void heightsAtFirst() {
        for (int home : new int[] {0, 11, 23}) {
            ReversalMesh x = new ReversalMesh();
            x.goal(0, home, 2);
            isHeight(x, home, 0, 0, 0, 0);
            for (int node = 0; node < 24; node++) {
                if (node != home) {
                    isWithout(x, node);
                }
            }
        }
    }

    private static void nothingIsToldAtFirst() {
        ReversalMesh x = new ReversalMesh();
        x.up(0, 1);
        x.goal(0, 0, 2);
        CHECK.due("messages", 0, x.count(1));
        sawNone(x, 1, 0);
    }

    private static void queryWithoutHeight() {
        for (int many = 0; many <= 6; many++) {
            ReversalMesh x = mesh();
            for (int other = 1; other <= many; other++) {
                x.up(20, other);
            }
            CHECK.yes("query(20, 0)", x.query(20, 0));
            CHECK.due("messages", many, x.count(1));
            CHECK.due("asking", 1, x.state(20, 0, 1));
            for (int other = 1; other <= many; other++) {
                steps(x, 20, other, 0);
            }
        }
    }

    private static void queryThoughItSawOne() {
        ReversalMesh x = mesh();
        see(x, 1, 0);
        CHECK.yes("query(1, 0)", x.query(1, 0));
        isWithout(x, 1);
        CHECK.due("asking", 1, x.state(1, 0, 1));
        CHECK.due("messages", 1, x.count(1));
        steps(x, 1, 0, 0);
        steps(x, 0, 1, 1);
        isHeight(x, 1, 0, 0, 0, 1);
    }

    private static void queryOfAnAsker() {
        ReversalMesh x = mesh();
        x.up(1, 2);
        x.query(1, 0);
        CHECK.no("query(1, 0)", x.query(1, 0));
        CHECK.due("messages", 1, x.count(1));
        steps(x, 1, 2, 0);
        CHECK.no("query(2, 0), it asks since it was asked", x.query(2, 0));
    }

    private static void queryWithAHeight() {
        ReversalMesh x = Meshes.line(0, 1);
        CHECK.no("query(0, 0)", x.query(0, 0));
        CHECK.no("query(1, 0)", x.query(1, 0));
        CHECK.due("messages", 0, x.count(1));
        CHECK.due("asking", 0, x.state(0, 0, 1) + x.state(1, 0, 1));
    }

    private static void askAtTheGoal() {
        ReversalMesh x = new ReversalMesh();
        x.up(0, 1);
        x.up(0, 2);
        x.goal(0, 0, 2);
        x.query(1, 0);
        steps(x, 1, 0, 0);
        CHECK.due("one answer", 1, x.count(1));
        steps(x, 0, 1, 1);
        CHECK.due("its last field", 0, x.saw(1, 0, 0, 4));
    }

    private static void askAtANodeWithAHeight() {
        ReversalMesh x = Meshes.line(0, 1);
        x.up(1, 2);
        x.up(1, 3);
        steps(x, 1, 2, 1);
        steps(x, 1, 3, 1);
        x.query(2, 0);
        steps(x, 2, 1, 0);
        CHECK.due("an answer to the sender alone", 1, x.count(1));
        CHECK.due("1 has the height that it had", 1, x.state(1, 0, 2));
        steps(x, 1, 2, 1);
        isHeight(x, 2, 0, 0, 0, 2);
    }

    private static void askAtOneThatSaw() {
        ReversalMesh x = mesh();
        see(x, 1, 0);
        askFrom(x, 2, 1);
        isHeight(x, 1, 0, 0, 0, 1);
        CHECK.due("not asking", 0, x.state(1, 0, 1));
        steps(x, 1, 0, 1);
        steps(x, 1, 2, 1);
        CHECK.due("it sent no ASK", 1, x.count(1));
    }

    private static void askAtAnAskerThatSaw() {
        ReversalMesh x = mesh();
        see(x, 1, 0);
        x.query(1, 0);
        askFrom(x, 2, 1);
        isHeight(x, 1, 0, 0, 0, 1);
        CHECK.due("not asking any more", 0, x.state(1, 0, 1));
    }

    private static void askAtOneThatSawNone() {
        ReversalMesh x = mesh();
        x.up(1, 2);
        x.up(1, 3);
        x.query(2, 0);
        steps(x, 2, 1, 0);
        CHECK.due("asking", 1, x.state(1, 0, 1));
        isWithout(x, 1);
        CHECK.due("it asks each, the sender too", 2, x.count(1));
        steps(x, 1, 2, 0);
        steps(x, 1, 3, 0);
    }

    private static void askAtAnAskerThatSawNone() {
        ReversalMesh x = mesh();
        x.up(1, 2);
        x.query(1, 0);
        x.query(2, 0);
        steps(x, 2, 1, 0);
        CHECK.due("it asks no more", 1, x.count(1));
        CHECK.due("still asking", 1, x.state(1, 0, 1));
    }

    private static void findOfOne() {
        ReversalMesh x = mesh();
        see(x, 1, 0);
        x.up(1, 3);
        x.up(1, 4);
        x.query(1, 0);
        steps(x, 1, 0, 0);
        steps(x, 0, 1, 1);
        isHeight(x, 1, 0, 0, 0, 1);
        CHECK.due("not asking", 0, x.state(1, 0, 1));
        CHECK.due("given once", 1, x.state(1, 0, 2));
        steps(x, 1, 0, 1);
        steps(x, 1, 3, 0, 1);
        steps(x, 1, 4, 0, 1);
    }

    /** Node 20 sees (1, 3, 0, 0) and (5, 2, 0, 0). */
    private static void findTheLowestTime() {
        ReversalMesh x = mesh();
        begin(x, 3);
        x.time(4);
        begin(x, 2);
        see(x, 20, 2);
        see(x, 20, 3);
        askFrom(x, 21, 20);
        isHeight(x, 20, 1, 3, 0, 1);
    }

    /** Node 20 sees (1, 4, 0, 0) and (1, 3, 0, 1). */
    private static void findTheLowestOrigin() {
        ReversalMesh x = two(3, 4);
        follow(x, 9, 3);
        see(x, 20, 4);
        see(x, 20, 9);
        askFrom(x, 21, 20);
        isHeight(x, 20, 1, 3, 0, 2);
    }

    /** Node 20 sees (1, 5, 1, 0) and (1, 5, 0, 1). */
    private static void findTheLowestBit() {
        ReversalMesh x = mesh();
        reflect(x);
        follow(x, 9, 5);
        see(x, 20, 2);
        see(x, 20, 9);
        askFrom(x, 21, 20);
        isHeight(x, 20, 1, 5, 0, 2);
    }

    /** Node 20 sees (0, 0, 0, 2, 1) and (0, 0, 0, 1, 9). */
    private static void findTheLowestDepth() {
        ReversalMesh x = Meshes.line(0, 9, 1);
        see(x, 20, 1);
        see(x, 20, 9);
        askFrom(x, 21, 20);
        isHeight(x, 20, 0, 0, 0, 2);
        CHECK.due("next", 9, x.next(20, 0));
    }

    private static void findADepthBelowZero() {
        ReversalMesh x = yieldingTo6();
        isHeight(x, 20, 1, 6, 0, -1);
        follow(x, 22, 20);
        isHeight(x, 22, 1, 6, 0, 0);
    }

    private static void heightAtOneWithout() {
        ReversalMesh x = mesh();
        see(x, 1, 0);
        CHECK.due("what it saw", 0, x.saw(1, 0, 0, 4));
        isWithout(x, 1);
        CHECK.due("not asking", 0, x.state(1, 0, 1));
        CHECK.due("given none", 0, x.state(1, 0, 2));
        CHECK.due("nothing is sent", 0, x.count(1));
    }

    private static void heightAtTheGoal() {
        ReversalMesh x = mesh();
        lean(x, 1);
        sawNone(x, 0, 1);
        steps(x, 1, 0, 0, 1);
        CHECK.due("what it saw", 1, x.saw(0, 1, 0, 3));
        isHeight(x, 0, 0, 0, 0, 0);
    }

    private static void heightInThePlaceOfAnother() {
        ReversalMesh x = mesh();
        lean(x, 1);
        x.up(1, 2);
        x.down(0, 1);
        steps(x, 1, 2, 1);
        CHECK.due("the first time", 0, x.saw(2, 1, 0, 0));
        steps(x, 1, 2, 1);
        CHECK.due("the later one in its place", 1, x.saw(2, 1, 0, 0));
        CHECK.due("in all fields", 0, x.saw(2, 1, 0, 3));
    }

    private static void heightAtAnAsker() {
        ReversalMesh x = mesh();
        lean(x, 1);
        isHeight(x, 1, 0, 0, 0, 1);
        CHECK.due("not asking", 0, x.state(1, 0, 1));
        follow(x, 2, 1);
        isHeight(x, 2, 0, 0, 0, 2);
        CHECK.due("not asking", 0, x.state(2, 0, 1));
    }

    private static void heightAtOneWithALowerNeighbour() {
        ReversalMesh x = mesh();
        begin(x, 6);
        lean(x, 5);
        follow(x, 20, 5);
        see(x, 20, 6);
        isHeight(x, 20, 0, 0, 0, 2);
        CHECK.due("given once", 1, x.state(20, 0, 2));
        CHECK.due("next", 5, x.next(20, 0));
    }

    private static void heightAtOneWithoutALowerNeighbour() {
        ReversalMesh x = mesh();
        lean(x, 5);
        follow(x, 20, 5);
        x.down(0, 5);
        isHeight(x, 20, 0, 0, 0, 2);
        steps(x, 5, 20, 1);
        isHeight(x, 20, 1, 5, 1, 0);
        CHECK.due("given twice", 2, x.state(20, 0, 2));
    }

    private static void heightAtTheGoalNeverYields() {
        ReversalMesh x = mesh();
        reflect(x);
        see(x, 0, 2);
        CHECK.due("the goal saw the bit", 1, x.saw(0, 2, 0, 2));
        isHeight(x, 0, 0, 0, 0, 0);
        CHECK.due("given none", 0, x.state(0, 0, 2));
        CHECK.due("noticed nothing", 0, x.state(0, 0, 3));
    }

    /** Node 2 has the level (1, 5, 1), and hears of node 5, which noticed. */
    private static void clearOfItsLevel() {
        ReversalMesh x = mesh();
        reflect(x);
        begin(x, 8);
        see(x, 2, 8);
        x.up(2, 9);
        steps(x, 2, 5, 1);
        int before = x.count(1);
        steps(x, 5, 2, 2);
        isWithout(x, 2);
        sawNone(x, 2, 5);
        sawNone(x, 2, 8);
        CHECK.due("not asking", 0, x.state(2, 0, 1));
        CHECK.due("found, reflected, lost", 3, x.state(2, 0, 2));
        CHECK.due("noticed nothing", 0, x.state(2, 0, 3));
        CHECK.due("a CLEAR to each of three", before - 1 + 3, x.count(1));
        steps(x, 2, 5, 2);
        steps(x, 2, 8, 1, 2);
        steps(x, 2, 9, 1, 2);
    }

    private static void clearBesideTheGoal() {
        ReversalMesh x = mesh();
        reflect(x);
        see(x, 2, 0);
        CHECK.due("next", 0, x.next(2, 0));
        steps(x, 2, 5, 1);
        steps(x, 5, 2, 2);
        isWithout(x, 2);
        sawNone(x, 2, 5);
        CHECK.due("still saw the goal", 0, x.saw(2, 0, 0, 4));
        steps(x, 2, 0, 1, 2);
        isHeight(x, 0, 0, 0, 0, 0);
        askFrom(x, 9, 2);
        isHeight(x, 2, 0, 0, 0, 1);
    }

    /** The goal is node 12: what node 2 saw of that stays, and node 0 is a node as any other. */
    private static void clearWithTheGoalElsewhere() {
        ReversalMesh x = new ReversalMesh();
        x.goal(0, 12, 2);
        follow(x, 5, 12);
        follow(x, 0, 5);
        follow(x, 2, 5);
        x.down(12, 5);
        steps(x, 5, 2, 1);
        isHeight(x, 2, 1, 5, 1, 0);
        see(x, 2, 0);
        see(x, 2, 12);
        steps(x, 2, 5, 0, 1, 1);
        CHECK.due("5 noticed", 1, x.state(5, 0, 3));
        steps(x, 5, 2, 1, 2);
        isWithout(x, 2);
        sawNone(x, 2, 0);
        sawNone(x, 2, 5);
        CHECK.due("still saw the goal", 12, x.saw(2, 12, 0, 4));
        steps(x, 5, 0, 1);
        isHeight(x, 0, 1, 5, 1, 0);
        steps(x, 5, 0, 2);
        isWithout(x, 0);
    }

    /** Nodes 9 and 10 took up the level (1, 5, 1) from node 2; the CLEAR goes the same way, and ends there. */
    private static void clearGoesOn() {
        ReversalMesh x = mesh();
        reflect(x);
        followForGood(x, 9, 2);
        followForGood(x, 10, 9);
        isHeight(x, 10, 1, 5, 1, 2);
        steps(x, 2, 5, 1);
        steps(x, 5, 2, 2);
        steps(x, 2, 9, 2);
        isWithout(x, 9);
        isHeight(x, 10, 1, 5, 1, 2);
        steps(x, 9, 10, 2);
        isWithout(x, 10);
        steps(x, 2, 5, 2);
        steps(x, 9, 2, 2);
        steps(x, 10, 9, 2);
        CHECK.due("nothing waits", 0, x.count(1));
        for (int node : new int[] {5, 2, 9, 10}) {
            isWithout(x, node);
            CHECK.due("asking", 0, x.state(node, 0, 1));
            CHECK.due("noticed", node == 5 ? 1 : 0, x.state(node, 0, 3));
        }
    }

    /** Node 2 tells of its level to a node, then is cleared: a CLEAR waits behind it. */
    private static ReversalMesh clearBehindTheLevel(int node) {
        ReversalMesh x = mesh();
        reflect(x);
        see(x, node, 2);
        steps(x, 2, 5, 1);
        steps(x, 5, 2, 2);
        CHECK.due("it saw the bit", 1, x.saw(node, 2, 0, 2));
        return x;
    }

    private static void clearAtOneWithout() {
        ReversalMesh x = clearBehindTheLevel(9);
        x.up(9, 10);
        int before = x.count(1);
        steps(x, 2, 9, 2);
        sawNone(x, 9, 2);
        isWithout(x, 9);
        CHECK.due("lost none", 0, x.state(9, 0, 2));
        CHECK.due("it does not go on", before - 1, x.count(1));
    }

    /** The highest node has six neighbours, of which it saw two with that level, and one with another one. */
    private static void clearAtOneWithSix() {
        ReversalMesh x = mesh();
        reflect(x);
        follow(x, 9, 2);
        see(x, 23, 2);
        see(x, 23, 9);
        see(x, 23, 0);
        for (int other = 12; other <= 14; other++) {
            x.up(23, other);
        }
        steps(x, 2, 5, 1);
        steps(x, 5, 2, 2);
        steps(x, 2, 23, 2);
        sawNone(x, 23, 2);
        sawNone(x, 23, 9);
        CHECK.due("still saw the goal", 0, x.saw(23, 0, 0, 4));
        isWithout(x, 23);
    }

    private static void clearAtAnAsker() {
        ReversalMesh x = clearBehindTheLevel(9);
        x.query(9, 0);
        steps(x, 2, 9, 2);
        sawNone(x, 9, 2);
        isWithout(x, 9);
        CHECK.due("still asking", 1, x.state(9, 0, 1));
    }

    private static void clearAtTheGoal() {
        ReversalMesh x = mesh();
        reflect(x);
        lean(x, 7);
        steps(x, 7, 0, 0, 1);
        see(x, 0, 2);
        steps(x, 2, 5, 1);
        steps(x, 5, 2, 2);
        CHECK.due("the goal saw the bit", 1, x.saw(0, 2, 0, 2));
        int before = x.count(1);
        steps(x, 2, 0, 2);
        sawNone(x, 0, 2);
        CHECK.due("still saw another level", 1, x.saw(0, 7, 0, 3));
        isHeight(x, 0, 0, 0, 0, 0);
        CHECK.due("it does not go on", before - 1, x.count(1));
        CHECK.due("lost none", 0, x.state(0, 0, 2));
    }

    /** Node 9 took up (1, 5, 0, 1) from node 5: that is another level than the (1, 5, 1) of the CLEAR. */
    private static void clearOfTheSameLevelWithBit0() {
        ReversalMesh x = mesh();
        reflect(x);
        follow(x, 9, 5);
        isHeight(x, 9, 1, 5, 0, 1);
        steps(x, 2, 5, 1);
        CHECK.due("5 noticed", 1, x.state(5, 0, 3));
        steps(x, 5, 9, 2);
        isHeight(x, 9, 1, 5, 0, 1);
        CHECK.due("still saw the bit 0", 0, x.saw(9, 5, 0, 2));
        CHECK.due("next", 5, x.next(9, 0));
        CHECK.due("given once", 1, x.state(9, 0, 2));
    }

    private static void clearOfAnotherTime() {
        clearOfAnotherLevel(4, 5);
    }

    private static void clearOfAnotherOrigin() {
        clearOfAnotherLevel(1, 6);
    }

    /**
     * CLEAR (1, 5) waits from node 2 to node 9, which saw the level (1, 5, 1) there. Then node 9 yields to the
     * level (time, origin, 1) of node 10, so that the CLEAR is not of its level.
     */
    private static void clearOfAnotherLevel(int time, int origin) {
        ReversalMesh x = mesh();
        lean(x, 3);
        follow(x, 9, 3);
        reflect(x);
        see(x, 9, 2);
        steps(x, 2, 5, 1);
        steps(x, 5, 2, 2);
        x.down(2, 5);
        if (time > 1) {
            x.time(time - 1);
        }
        lean(x, origin);
        follow(x, 10, origin);
        x.down(0, origin);
        steps(x, origin, 10, 1);
        see(x, 9, 10);
        x.down(0, 3);
        isHeight(x, 9, 0, 0, 0, 2);
        steps(x, 3, 9, 1);
        isHeight(x, 9, time, origin, 1, -1);
        CHECK.due("saw the level of the CLEAR", 5, x.saw(9, 2, 0, 1));
        steps(x, 2, 9, 2);
        sawNone(x, 9, 2);
        isHeight(x, 9, time, origin, 1, -1);
        CHECK.due("still saw the other one", origin, x.saw(9, 10, 0, 1));
        CHECK.due("found, then yielded", 2, x.state(9, 0, 2));
    }

    /** Node 9 leads to the goal; what it saw of node 2 is gone, which changes nothing else. */
    private static void clearLeavesALowerNeighbour() {
        ReversalMesh x = clearBehindTheLevel(9);
        lean(x, 9);
        isHeight(x, 9, 0, 0, 0, 1);
        int before = x.count(1);
        steps(x, 2, 9, 2);
        sawNone(x, 9, 2);
        isHeight(x, 9, 0, 0, 0, 1);
        CHECK.due("given once", 1, x.state(9, 0, 2));
        CHECK.due("nothing is sent", before - 1, x.count(1));
    }

    /** Node 9 has the level (4, 9, 0), and saw node 2 below that; a CLEAR waits there. */
    private static ReversalMesh clearOfTheOnlyLowerOne() {
        ReversalMesh x = clearBehindTheLevel(9);
        x.time(3);
        lean(x, 9);
        x.down(0, 9);
        isHeight(x, 9, 4, 9, 0, 0);
        CHECK.due("next", 2, x.next(9, 0));
        return x;
    }

    /** Node 9 saw node 10 too, above itself: without node 2 it yields to that. */
    private static void clearLeavesHigherOnes() {
        ReversalMesh x = clearOfTheOnlyLowerOne();
        followForGood(x, 10, 9);
        isHeight(x, 10, 4, 9, 0, 1);
        isHeight(x, 9, 4, 9, 0, 0);
        steps(x, 2, 9, 2);
        sawNone(x, 9, 2);
        isHeight(x, 9, 4, 9, 1, 0);
        CHECK.due("found, begun, yielded", 3, x.state(9, 0, 2));
        steps(x, 9, 10, 1);
        CHECK.due("it was told", 1, x.saw(10, 9, 0, 2));
    }

    /** Node 20 leans on node 5, and sees other ones; it yields, when node 5 loses the goal and tells that. */
    private static ReversalMesh leaning(int on) {
        ReversalMesh x = mesh();
        lean(x, on);
        follow(x, 20, on);
        return x;
    }

    private static void letYield(ReversalMesh x, int on) {
        isHeight(x, 20, 0, 0, 0, 2);
        x.down(0, on);
        isHeight(x, 20, 0, 0, 0, 2);
        steps(x, on, 20, 1);
        CHECK.due("found, then yielded", 2, x.state(20, 0, 2));
    }

    /** Node 20 sees (1, 6, 0, 0) and, by which it yields, (1, 5, 0, 0). */
    private static ReversalMesh yieldingTo6() {
        ReversalMesh x = leaning(5);
        begin(x, 6);
        see(x, 20, 6);
        letYield(x, 5);
        return x;
    }

    /** Node 7 has a greater level than node 6, but node 20 has not seen it. */
    private static void yieldByThoseSeen() {
        ReversalMesh x = leaning(5);
        begin(x, 6);
        begin(x, 7);
        see(x, 20, 6);
        x.up(20, 7);
        x.up(20, 22);
        letYield(x, 5);
        isHeight(x, 20, 1, 6, 0, -1);
        ReversalMesh y = leaning(5);
        y.up(20, 22);
        letYield(y, 5);
        isHeight(y, 20, 1, 5, 1, 0);
    }

    private static void yieldToNothing() {
        ReversalMesh x = clearOfTheOnlyLowerOne();
        x.up(9, 22);
        int before = x.count(1);
        steps(x, 2, 9, 2);
        isWithout(x, 9);
        CHECK.due("found, begun, lost", 3, x.state(9, 0, 2));
        CHECK.due("noticed nothing", 0, x.state(9, 0, 3));
        CHECK.due("not asking", 0, x.state(9, 0, 1));
        CHECK.due("tells nothing", before - 1, x.count(1));
    }

    private static void yieldToTheGreatestTime() {
        ReversalMesh x = leaning(5);
        begin(x, 6);
        see(x, 20, 6);
        x.time(3);
        letYield(x, 5);
        isHeight(x, 20, 4, 5, 0, -1);

        ReversalMesh y = leaning(6);
        y.down(0, 6);
        y.time(3);
        begin(y, 5);
        see(y, 20, 5);
        isHeight(y, 20, 0, 0, 0, 2);
        steps(y, 6, 20, 1);
        isHeight(y, 20, 4, 5, 0, -1);
    }

    private static void yieldToTheGreatestOrigin() {
        isHeight(yieldingTo6(), 20, 1, 6, 0, -1);
        ReversalMesh x = leaning(7);
        begin(x, 6);
        see(x, 20, 6);
        letYield(x, 7);
        isHeight(x, 20, 1, 7, 0, -1);
    }

    /** Node 20 sees (1, 5, 1, 0) of node 8, and then (1, 5, 0, 0) of node 5. */
    private static void yieldToTheGreatestBit() {
        ReversalMesh x = leaning(5);
        follow(x, 8, 5);
        x.down(0, 5);
        steps(x, 5, 8, 1);
        isHeight(x, 8, 1, 5, 1, 0);
        see(x, 20, 8);
        isHeight(x, 20, 0, 0, 0, 2);
        steps(x, 5, 20, 1);
        isHeight(x, 20, 1, 5, 1, -1);
    }

    /** Of the greatest level node 20 sees the depths 1 and 2, in either order; depth 0 of a lesser level. */
    private static void yieldBelowTheLeastDepth() {
        for (int near = 8; near <= 9; near++) {
            ReversalMesh x = leaning(5);
            begin(x, 6);
            follow(x, near, 6);
            follow(x, 17 - near, near);
            see(x, 20, 8);
            see(x, 20, 9);
            letYield(x, 5);
            isHeight(x, 20, 1, 6, 0, 0);
            CHECK.due("next", 5, x.next(20, 0));
        }
    }

    /** Node 21 sees the depths 0 of node 6 and -1 of node 20. */
    private static void yieldBelowADepthBelowZero() {
        ReversalMesh x = yieldingTo6();
        lean(x, 4);
        follow(x, 21, 4);
        see(x, 21, 20);
        see(x, 21, 6);
        x.down(0, 4);
        steps(x, 4, 21, 1);
        isHeight(x, 21, 1, 6, 0, -2);
    }

    private static void yieldToOneOfBit0() {
        ReversalMesh x = leaning(5);
        letYield(x, 5);
        isHeight(x, 20, 1, 5, 1, 0);
        ReversalMesh y = leaning(5);
        y.time(1000);
        letYield(y, 5);
        isHeight(y, 20, 1001, 5, 1, 0);
    }

    /** Nodes 7 to 11 follow node 5 with the depths 1 to 5: all six that node 20 sees have one level. */
    private static void yieldToSeveralOfBit0() {
        ReversalMesh x = leaning(5);
        x.down(0, 5);
        follow(x, 7, 5);
        for (int node = 8; node <= 11; node++) {
            follow(x, node, node - 1);
        }
        isHeight(x, 11, 1, 5, 0, 5);
        for (int node = 7; node <= 11; node++) {
            see(x, 20, node);
        }
        isHeight(x, 20, 0, 0, 0, 2);
        steps(x, 5, 20, 1);
        isHeight(x, 20, 1, 5, 1, 0);
    }

    /** Node 23 has six neighbours, of which it saw one. */
    private static void yieldOfTheHighestNode() {
        ReversalMesh x = mesh();
        lean(x, 5);
        follow(x, 23, 5);
        for (int other = 7; other <= 11; other++) {
            x.up(23, other);
        }
        x.down(0, 5);
        steps(x, 5, 23, 1);
        isHeight(x, 23, 1, 5, 1, 0);
    }

    private static void noticeOverOne() {
        ReversalMesh x = mesh();
        reflect(x);
        isHeight(x, 5, 1, 5, 0, 0);
        int before = x.count(1);
        steps(x, 2, 5, 1);
        isWithout(x, 5);
        sawNone(x, 5, 2);
        CHECK.due("noticed", 1, x.state(5, 0, 3));
        CHECK.due("not asking", 0, x.state(5, 0, 1));
        CHECK.due("found, begun, lost", 3, x.state(5, 0, 2));
        CHECK.due("one is sent", before, x.count(1));
        steps(x, 5, 2, 2);
    }

    /** Node 5 sees (1, 5, 1, 1) of node 9 while node 2 seems lower, then (1, 5, 1, 0) of node 2; 10 is not seen. */
    private static void noticeOverSeveral() {
        ReversalMesh x = mesh();
        reflect(x);
        follow(x, 9, 2);
        isHeight(x, 9, 1, 5, 1, 1);
        see(x, 5, 9);
        x.up(5, 10);
        CHECK.due("next", 2, x.next(5, 0));
        CHECK.due("noticed nothing", 0, x.state(5, 0, 3));
        steps(x, 2, 5, 1);
        CHECK.due("noticed", 1, x.state(5, 0, 3));
        isWithout(x, 5);
        sawNone(x, 5, 2);
        sawNone(x, 5, 9);
        steps(x, 5, 2, 2);
        steps(x, 5, 9, 1, 2);
        steps(x, 5, 10, 1, 2);
    }

    private static void noticeOfNodeZero() {
        ReversalMesh x = new ReversalMesh();
        x.goal(0, 23, 2);
        follow(x, 0, 23);
        follow(x, 1, 0);
        x.down(23, 0);
        isHeight(x, 0, 1, 0, 0, 0);
        steps(x, 0, 1, 1);
        isHeight(x, 1, 1, 0, 1, 0);
        steps(x, 1, 0, 0, 1, 1);
        isWithout(x, 0);
        CHECK.due("noticed", 1, x.state(0, 0, 3));
        steps(x, 0, 1, 1, 2);
        isWithout(x, 1);
    }

    /** Node 20 sees nothing but (1, 5, 1, 0) of node 2. */
    private static ReversalMesh overAnothersReflection(int later) {
        ReversalMesh x = mesh();
        lean(x, 5);
        follow(x, 2, 5);
        follow(x, 20, 2);
        x.down(0, 5);
        steps(x, 5, 2, 1);
        isHeight(x, 2, 1, 5, 1, 0);
        isHeight(x, 20, 0, 0, 0, 3);
        if (later > 0) {
            x.time(later);
        }
        steps(x, 2, 20, 1);
        return x;
    }

    private static void yieldToAnothersBit1() {
        for (int later = 0; later <= 1000; later += 500) {
            ReversalMesh x = overAnothersReflection(later);
            isHeight(x, 20, 1 + later, 20, 0, 0);
            CHECK.due("noticed nothing", 0, x.state(20, 0, 3));
            CHECK.due("found, then yielded", 2, x.state(20, 0, 2));
        }
    }

    /** Node 3 has (1, 3, 0, 0), sees (1, 5, 1, 0) alone, and now is still 1. */
    private static void yieldToTheHeightThatItHas() {
        ReversalMesh x = mesh();
        begin(x, 3);
        reflect(x);
        CHECK.due("found, begun", 2, x.state(3, 0, 2));
        x.up(3, 2);
        int before = x.count(1);
        steps(x, 2, 3, 1);
        isHeight(x, 3, 1, 3, 0, 0);
        CHECK.due("it was given one", 3, x.state(3, 0, 2));
        CHECK.due("and told both", before - 1 + 2, x.count(1));
        // an older time than its own is lower, and nothing to yield to
        ReversalMesh y = mesh();
        reflect(y);
        y.time(1);
        begin(y, 3);
        see(y, 3, 2);
        CHECK.due("next", 2, y.next(3, 0));
        CHECK.due("found, begun", 2, y.state(3, 0, 2));
    }

    private static void yieldIsTold() {
        ReversalMesh x = leaning(5);
        for (int other = 7; other <= 11; other++) {
            x.up(20, other);
            steps(x, 20, other, 1);
        }
        steps(x, 20, 5, 0, 1);
        steps(x, 5, 20, 1);
        letYield(x, 5);
        CHECK.due("six are told", 6, x.count(1));
        for (int other : new int[] {5, 7, 8, 9, 10, 11}) {
            steps(x, 20, other, 1);
        }
        for (int other = 7; other <= 11; other++) {
            CHECK.due("the bit", 1, x.saw(other, 20, 0, 2));
        }
    }

    /**
     * The way from node 2 to node 10 is full when node 2 loses its height, so that node 10 hears of nothing; then
     * node 2 finds one of the goal's level again, above that of node 10. All that node 10 sees is of the level
     * (0, 0, 0), so it goes to (0, 0, 1). Node 0 sees that alone: its origin is 0, which is itself.
     */
    private static void yieldToTheGoalsLevel() {
        ReversalMesh x = new ReversalMesh();
        x.goal(0, 22, 2);
        x.goal(1, 23, 1);
        // for goal 1 nodes 22 and 10 are far above nodes 1 and 2, which raise each other and fill their ways
        x.up(21, 22);
        x.drain(400);
        x.up(10, 11);
        x.drain(400);
        x.up(1, 2);
        x.up(2, 10);
        x.query(2, 0);
        x.up(22, 2);
        steps(x, 10, 2, 4);
        steps(x, 22, 2, 1, 4);
        isHeight(x, 2, 0, 0, 0, 1);
        steps(x, 2, 10, 4, 0, 1);
        isHeight(x, 10, 0, 0, 0, 2);
        x.query(0, 0);
        x.up(0, 10);
        steps(x, 10, 0, 1);
        isHeight(x, 0, 0, 0, 0, 3);
        x.drain(300);
        isHeight(x, 1, 0, 0, 0, 2);

        x.down(22, 2);
        stepBothWays(x, 2, 1);
        CHECK.due("2 noticed", 1, x.state(2, 0, 3));
        stepBothWays(x, 2, 1);
        isWithout(x, 1);
        isWithout(x, 2);
        for (int k = 0; k < 64; k++) {
            steps(x, 2, 10, 4);
        }
        isHeight(x, 10, 0, 0, 0, 2);

        x.up(21, 20);
        x.query(20, 0);
        steps(x, 20, 21, 4, 0);
        steps(x, 21, 20, 4, 1);
        isHeight(x, 20, 0, 0, 0, 2);
        follow(x, 2, 20);
        isHeight(x, 2, 0, 0, 0, 3);
        steps(x, 2, 10, 0, 1);
        isHeight(x, 10, 0, 0, 1, 0);
        Meshes.stepAll(x, 10, 0);
        isWithout(x, 0);
        CHECK.due("0 noticed", 1, x.state(0, 0, 3));
    }

    private static void stepBothWays(ReversalMesh x, int one, int other) {
        Meshes.stepAll(x, one, other);
        Meshes.stepAll(x, other, one);
    }

    private static void lostLinkTakesWhatWasSeen() {
        ReversalMesh x = mesh();
        lean(x, 1);
        steps(x, 1, 0, 0, 1);
        see(x, 2, 1);
        see(x, 2, 0);
        CHECK.due("without height it saw", 1, x.saw(2, 1, 0, 3));
        x.down(2, 1);
        sawNone(x, 2, 1);
        CHECK.due("it still saw the other one", 0, x.saw(2, 0, 0, 3));
        CHECK.due("the goal saw", 1, x.saw(0, 1, 0, 3));
        x.down(0, 1);
        sawNone(x, 0, 1);
        sawNone(x, 1, 0);
        x.up(0, 1);
        sawNone(x, 0, 1);
        sawNone(x, 1, 0);
    }

    private static void lostLinkOfANodeWithoutHeight() {
        ReversalMesh x = mesh();
        see(x, 1, 0);
        x.up(1, 2);
        x.query(2, 0);
        x.down(0, 1);
        isWithout(x, 1);
        CHECK.due("1 does not ask", 0, x.state(1, 0, 1));
        x.down(1, 2);
        isWithout(x, 2);
        CHECK.due("2 still asks", 1, x.state(2, 0, 1));
        CHECK.due("given none, lost none", 0, x.state(1, 0, 2) + x.state(2, 0, 2));
        CHECK.due("nothing waits", 0, x.count(1));
    }

    private static void lostLinkOfTheGoal() {
        ReversalMesh x = Meshes.line(0, 1);
        x.up(0, 2);
        x.drain(10);
        x.down(0, 1);
        isHeight(x, 0, 0, 0, 0, 0);
        x.down(0, 2);
        isHeight(x, 0, 0, 0, 0, 0);
        CHECK.due("given none, lost none", 0, x.state(0, 0, 2));
        CHECK.due("nothing is told", 0, x.count(1));
    }

    private static void lostLinkWithALowerNeighbour() {
        ReversalMesh x = leaning(5);
        begin(x, 6);
        see(x, 20, 6);
        x.time(3);
        int before = x.count(1);
        int lost = x.down(20, 6);
        isHeight(x, 20, 0, 0, 0, 2);
        CHECK.due("given once", 1, x.state(20, 0, 2));
        CHECK.due("6 saw nothing lower, and begins a level", 4, x.height(6, 0, 0));
        CHECK.due("which it tells its other neighbour", before - lost + 1, x.count(1));
    }

    private static void lostLastLink() {
        ReversalMesh x = Meshes.line(0, 1);
        x.down(0, 1);
        isWithout(x, 1);
        CHECK.due("found, lost", 2, x.state(1, 0, 2));
        CHECK.due("noticed nothing", 0, x.state(1, 0, 3));
        CHECK.due("not asking", 0, x.state(1, 0, 1));
        CHECK.due("nothing waits", 0, x.count(1));
    }

    private static void lostLinkWithOthersUnseen() {
        ReversalMesh x = mesh();
        lean(x, 1);
        for (int other = 2; other <= 6; other++) {
            x.up(1, other);
            steps(x, 1, other, 1);
        }
        CHECK.due("lost with the link", 2, x.down(0, 1));
        isHeight(x, 1, 1, 1, 0, 0);
        CHECK.due("five are told", 5, x.count(1));
        for (int other = 2; other <= 6; other++) {
            steps(x, 1, other, 1);
            CHECK.due("the origin", 1, x.saw(other, 1, 0, 1));
        }
    }

    private static void lostLinkWithOthersHigher() {
        for (int later : new int[] {1, 1000}) {
            ReversalMesh x = Meshes.line(0, 1, 2);
            x.time(later);
            CHECK.due("1 saw 2", 2, x.saw(1, 2, 0, 3));
            x.down(1, 0);
            isHeight(x, 1, 1 + later, 1, 0, 0);
            CHECK.due("next", 2, x.next(1, 0));
            CHECK.due("one is told", 1, x.count(1));
        }
    }
}
