/** Promises 8 to 12: what a node wants, knows and has for a goal. */
final class GoalEdges {
    private static final Check CHECK = Edges.CHECK;

    private GoalEdges() {
    }

    static void under(Edges edges) {
        query(edges);
        next(edges);
        height(edges);
        saw(edges);
        state(edges);
    }

    private static void query(Edges edges) {
        edges.at("Promise 8: query");
        edges.test("A node wants a way to a goal: whether it asked then (not, when it was asking already).",
                GoalEdges::queryAsksOnce, GoalEdges::queryWithAHeight, GoalEdges::queryOfTheLowestAndTheHighestNode,
                GoalEdges::queryAgainAfterALoss, GoalEdges::queryThatAsksNothingChangesNothing);
        edges.test("For all calls with a goal: IndexOutOfBoundsException, when there is no such node,"
                + " or the goal was not made.",
                GoalEdges::callsWithAGoalRefuseNodes, GoalEdges::callsWithAGoalRefuseGoals);
    }

    private static void next(Edges edges) {
        edges.at("Promise 9: next");
        edges.test("A node's next; NONE without.",
                GoalEdges::nextWithoutNeighbours, GoalEdges::nextWithoutHeights, GoalEdges::nextOfSeveral,
                GoalEdges::nextOfTheGoal);
    }

    private static void height(Edges edges) {
        edges.at("Promise 10: height");
        edges.test("A field of a node's height.", GoalEdges::heightOfEachField);
        edges.test("IndexOutOfBoundsException, also for another field;", GoalEdges::heightRefusesFields);
        edges.test("IllegalStateException, when it has none.", GoalEdges::heightRefusesWithout);
    }

    private static void saw(Edges edges) {
        edges.at("Promise 11: saw");
        edges.test("A field of the height that a node saw of another one.", GoalEdges::sawOfEachField);
        edges.test("IndexOutOfBoundsException, also for another field;", GoalEdges::sawRefusesFields);
        edges.test("IllegalStateException, when they have no link, or it saw none.",
                GoalEdges::sawRefusesWithoutLink, GoalEdges::sawRefusesWithoutHeight);
    }

    private static void state(Edges edges) {
        edges.at("Promise 12: state");
        edges.test("Of a node for a goal: whether it has a height (what 0), is asking (1),",
                GoalEdges::stateOfHeightAndAsking);
        edges.test("how often it was given a height, or lost it, since the goal was made"
                + " (2; what it had then does not count),",
                GoalEdges::stateOfChangesInModes0And1, GoalEdges::stateOfChangesInMode2,
                GoalEdges::stateOfTheSameHeightAgain);
        edges.test("how often it noticed that it is cut off (3).", GoalEdges::stateOfNotices);
        edges.test("IndexOutOfBoundsException, also for another what.", GoalEdges::stateRefusesWhats);
    }

    private static void queryAsksOnce() {
        ReversalMesh x = new ReversalMesh();
        x.goal(0, 0, 2);
        CHECK.yes("query(1, 0)", x.query(1, 0));
        CHECK.due("is asking", 1, x.state(1, 0, 1));
        CHECK.no("query(1, 0), asking already", x.query(1, 0));
        CHECK.due("is asking", 1, x.state(1, 0, 1));
        CHECK.yes("query(2, 0), another node", x.query(2, 0));
    }

    private static void queryWithAHeight() {
        ReversalMesh x = new ReversalMesh();
        for (int mode = 0; mode <= 2; mode++) {
            x.goal(mode, 7, mode);
        }
        x.up(7, 8);
        x.query(8, 2);
        x.drain(100);
        for (int mode = 0; mode <= 2; mode++) {
            CHECK.no("the goal has a height, mode " + mode, x.query(7, mode));
            CHECK.no("the other one has a height, mode " + mode, x.query(8, mode));
            CHECK.due("it is not asking", 0, x.state(8, mode, 1));
        }
        CHECK.due("nothing was sent", 0, x.count(1));
    }

    private static void queryOfTheLowestAndTheHighestNode() {
        ReversalMesh x = new ReversalMesh();
        x.goal(0, 7, 2);
        x.goal(5, 7, 2);
        x.up(0, 23);
        CHECK.yes("query(0, 0)", x.query(0, 0));
        CHECK.yes("query(23, 5)", x.query(23, 5));
        CHECK.due("0 asks for goal 0 alone", 0, x.state(0, 5, 1));
        CHECK.due("23 asks for goal 5 alone", 0, x.state(23, 0, 1));
        CHECK.due("step(0, 23)", 0, x.step(0, 23));
        CHECK.due("step(23, 0)", 15, x.step(23, 0));
    }

    private static void queryAgainAfterALoss() {
        ReversalMesh x = Meshes.line(0, 1);
        CHECK.no("with a height", x.query(1, 0));
        x.down(0, 1);
        CHECK.yes("without", x.query(1, 0));
        CHECK.no("asking", x.query(1, 0));
    }

    private static void queryThatAsksNothingChangesNothing() {
        int[][] queries = {{7, 0}, {0, 0}, {4, 0}, {1, 1}, {5, 1}, {23, 5}, {9, 5}};
        for (int[] told : queries) {
            String what = "query(" + told[0] + ", " + told[1] + ")";
            CHECK.no(what, Meshes.busy().query(told[0], told[1]));
            Edges.unchanged(Meshes.BUSY, what, x -> x.query(told[0], told[1]) ? 1 : 0);
        }
    }

    private static void callsWithAGoalRefuseNodes() {
        for (int bad : Edges.beyond(0, 23)) {
            Edges.refused(Edges.BOUNDS, Meshes.BUSY, "query(" + bad + ", 0)", x -> x.query(bad, 0) ? 1 : 0);
            Edges.refused(Edges.BOUNDS, Meshes.BUSY, "next(" + bad + ", 0)", x -> x.next(bad, 0));
            Edges.refused(Edges.BOUNDS, Meshes.BUSY, "height(" + bad + ", 0, 0)", x -> x.height(bad, 0, 0));
            Edges.refused(Edges.BOUNDS, Meshes.BUSY, "saw(" + bad + ", 0, 0, 0)", x -> x.saw(bad, 0, 0, 0));
            Edges.refused(Edges.BOUNDS, Meshes.BUSY, "saw(0, " + bad + ", 0, 0)", x -> x.saw(0, bad, 0, 0));
            Edges.refused(Edges.BOUNDS, Meshes.BUSY, "state(" + bad + ", 0, 0)", x -> x.state(bad, 0, 0));
            Edges.refused(Edges.BOUNDS, Meshes.BUSY, "send(" + bad + ", 0, 9)", x -> x.send(bad, 0, 9));
        }
    }

    /** Goals 2 to 4 could be, but were not made. */
    private static void callsWithAGoalRefuseGoals() {
        for (int bad : new int[] {2, 3, 4, -1, 6, Integer.MIN_VALUE, Integer.MAX_VALUE}) {
            Edges.refused(Edges.BOUNDS, Meshes.BUSY, "query(9, " + bad + ")", x -> x.query(9, bad) ? 1 : 0);
            Edges.refused(Edges.BOUNDS, Meshes.BUSY, "next(1, " + bad + ")", x -> x.next(1, bad));
            Edges.refused(Edges.BOUNDS, Meshes.BUSY, "height(1, " + bad + ", 0)", x -> x.height(1, bad, 0));
            Edges.refused(Edges.BOUNDS, Meshes.BUSY, "saw(1, 0, " + bad + ", 0)", x -> x.saw(1, 0, bad, 0));
            Edges.refused(Edges.BOUNDS, Meshes.BUSY, "state(1, " + bad + ", 0)", x -> x.state(1, bad, 0));
            Edges.refused(Edges.BOUNDS, Meshes.BUSY, "send(1, " + bad + ", 9)", x -> x.send(1, bad, 9));
            Edges.refused(Edges.BOUNDS, Meshes.BUSY, "got(" + bad + ", 0)", x -> x.got(bad, 0));
        }
    }

    private static void nextWithoutNeighbours() {
        ReversalMesh x = new ReversalMesh();
        for (int mode = 0; mode <= 2; mode++) {
            x.goal(mode, 0, mode);
            CHECK.due("next(0, " + mode + ")", -1, x.next(0, mode));
            CHECK.due("next(23, " + mode + ")", -1, x.next(23, mode));
        }
        x.up(0, 23);
        x.drain(100);
        CHECK.due("next(23, 0)", 0, x.next(23, 0));
        x.down(0, 23);
        CHECK.due("next(23, 0), the link is gone", -1, x.next(23, 0));
        x.up(0, 23);
        CHECK.due("next(23, 0), nothing was seen since", -1, x.next(23, 0));
    }

    private static void nextWithoutHeights() {
        ReversalMesh x = new ReversalMesh();
        x.goal(0, 0, 2);
        x.up(0, 1);
        CHECK.due("saw none", -1, x.next(1, 0));
        x.step(0, 1);
        CHECK.due("saw one, but has none", -1, x.next(1, 0));
        x.query(1, 0);
        CHECK.due("asks", -1, x.next(1, 0));
        x.drain(100);
        CHECK.due("has one", 0, x.next(1, 0));
        x.up(1, 2);
        x.query(2, 0);
        x.drain(100);
        CHECK.due("another one is higher", 0, x.next(1, 0));
        x.goal(1, 23, 0);
        x.up(3, 4);
        x.step(4, 3);
        x.step(3, 4);
        CHECK.due("mode 0: it was stuck, and is higher now", 4, x.next(3, 1));
        x.step(3, 4);
        CHECK.due("mode 0: the other one is higher then", 3, x.next(4, 1));
        x.step(4, 3);
        CHECK.due("and so on", 4, x.next(3, 1));
    }

    /** Six neighbours with equal fields, but for the last: the lowest number is next, then the goal. */
    private static void nextOfSeveral() {
        ReversalMesh x = new ReversalMesh();
        x.goal(0, 23, 0);
        int[] others = {9, 14, 2, 11, 3};
        for (int other : others) {
            x.up(10, other);
        }
        int[] nexts = {9, 9, 2, 2, 2};
        for (int i = 0; i < others.length; i++) {
            x.step(others[i], 10);
            CHECK.due("saw " + others[i], nexts[i], x.next(10, 0));
        }
        x.up(10, 23);
        CHECK.due("the goal is not yet seen", 2, x.next(10, 0));
        x.step(23, 10);
        CHECK.due("the goal is lower", 23, x.next(10, 0));
        x.down(10, 23);
        CHECK.due("the goal is gone", 2, x.next(10, 0));
    }

    private static void nextOfTheGoal() {
        ReversalMesh x = new ReversalMesh();
        for (int mode = 0; mode <= 2; mode++) {
            x.goal(mode, 23, mode);
        }
        x.up(0, 23);
        x.query(0, 2);
        x.drain(100);
        for (int mode = 0; mode <= 2; mode++) {
            CHECK.due("the goal saw a height, mode " + mode, 0, x.saw(23, 0, mode, 4));
            CHECK.due("next(23, " + mode + ")", -1, x.next(23, mode));
            CHECK.due("next(0, " + mode + ")", 23, x.next(0, mode));
        }
    }

    private static void heightOfEachField() {
        ReversalMesh x = Meshes.line(0, 5, 9);
        x.time(6);
        x.down(0, 5);
        int[] want = {7, 5, 0, 0, 5};
        for (int field = 0; field <= 4; field++) {
            CHECK.due("height(5, 0, " + field + ")", want[field], x.height(5, 0, field));
        }
        x.step(5, 9);
        int[] other = {7, 5, 1, 0, 9};
        for (int field = 0; field <= 4; field++) {
            CHECK.due("height(9, 0, " + field + ")", other[field], x.height(9, 0, field));
        }
    }

    private static void heightRefusesFields() {
        for (int bad : Edges.beyond(0, 4)) {
            Edges.refused(Edges.BOUNDS, Meshes.BUSY, "height(1, 0, " + bad + ")", x -> x.height(1, 0, bad));
            Edges.refused(Edges.BOUNDS, Meshes.BUSY, "height(9, 0, " + bad + "), without height",
                    x -> x.height(9, 0, bad));
        }
    }

    private static void heightRefusesWithout() {
        for (int i = 0; i <= 4; i++) {
            int field = i;
            Edges.refused(Edges.STATE, Meshes.BUSY, "height(9, 0, " + field + ")", x -> x.height(9, 0, field));
        }
        Edges.refused(Edges.STATE, Meshes.BUSY, "height(7, 0, 0), asking", x -> x.height(7, 0, 0));
        ReversalMesh y = Meshes.line(0, 1);
        y.down(0, 1);
        CHECK.state("height(1, 0, 0), it lost its height", () -> y.height(1, 0, 0));
    }

    private static void sawOfEachField() {
        ReversalMesh x = Meshes.line(0, 5, 9);
        x.time(6);
        x.down(0, 5);
        x.step(5, 9);
        x.up(9, 23);
        x.step(9, 23);
        int[] want = {7, 5, 1, 0, 9};
        for (int field = 0; field <= 4; field++) {
            CHECK.due("saw(23, 9, 0, " + field + ")", want[field], x.saw(23, 9, 0, field));
        }
    }

    private static void sawRefusesFields() {
        for (int bad : Edges.beyond(0, 4)) {
            Edges.refused(Edges.BOUNDS, Meshes.BUSY, "saw(1, 0, 0, " + bad + ")", x -> x.saw(1, 0, 0, bad));
            Edges.refused(Edges.BOUNDS, Meshes.BUSY, "saw(1, 9, 0, " + bad + "), without link",
                    x -> x.saw(1, 9, 0, bad));
        }
    }

    private static void sawRefusesWithoutLink() {
        Edges.refused(Edges.STATE, Meshes.BUSY, "saw(2, 0, 0, 0)", x -> x.saw(2, 0, 0, 0));
        Edges.refused(Edges.STATE, Meshes.BUSY, "saw(0, 23, 1, 4)", x -> x.saw(0, 23, 1, 4));
        Edges.refused(Edges.STATE, Meshes.BUSY, "saw(1, 1, 0, 0), itself", x -> x.saw(1, 1, 0, 0));
        for (int mode = 0; mode <= 2; mode++) {
            ReversalMesh y = new ReversalMesh();
            y.goal(0, 0, mode);
            y.up(0, 1);
            y.step(0, 1);
            CHECK.due("saw(1, 0, 0, 4)", 0, y.saw(1, 0, 0, 4));
            y.down(0, 1);
            CHECK.state("the link is gone, mode " + mode, () -> y.saw(1, 0, 0, 4));
            y.up(0, 1);
            CHECK.state("and is there again, mode " + mode, () -> y.saw(1, 0, 0, 4));
            y.step(0, 1);
            CHECK.due("and a height came over it", 0, y.saw(1, 0, 0, 4));
        }
    }

    private static void sawRefusesWithoutHeight() {
        for (int i = 0; i <= 4; i++) {
            int field = i;
            Edges.refused(Edges.STATE, Meshes.BUSY, "saw(5, 8, 1, " + field + ")", x -> x.saw(5, 8, 1, field));
        }
        ReversalMesh y = new ReversalMesh();
        y.goal(0, 0, 2);
        y.goal(1, 0, 2);
        y.up(0, 1);
        y.step(0, 1);
        CHECK.due("seen for goal 0", 0, y.saw(1, 0, 0, 4));
        CHECK.state("not yet for goal 1", () -> y.saw(1, 0, 1, 4));
        CHECK.state("nor by the other one", () -> y.saw(0, 1, 0, 4));
    }

    private static void stateOfHeightAndAsking() {
        ReversalMesh x = new ReversalMesh();
        x.goal(0, 23, 2);
        CHECK.due("the goal has a height", 1, x.state(23, 0, 0));
        CHECK.due("and is not asking", 0, x.state(23, 0, 1));
        CHECK.due("0 has none", 0, x.state(0, 0, 0));
        CHECK.due("and is not asking", 0, x.state(0, 0, 1));
        x.query(0, 0);
        CHECK.due("0 has none yet", 0, x.state(0, 0, 0));
        CHECK.due("and is asking", 1, x.state(0, 0, 1));
        x.up(0, 23);
        x.drain(100);
        CHECK.due("0 has one", 1, x.state(0, 0, 0));
        CHECK.due("and is not asking", 0, x.state(0, 0, 1));
        x.down(0, 23);
        CHECK.due("0 has none any more", 0, x.state(0, 0, 0));
        CHECK.due("and is not asking", 0, x.state(0, 0, 1));
    }

    private static void stateOfChangesInModes0And1() {
        for (int mode = 0; mode <= 1; mode++) {
            ReversalMesh x = new ReversalMesh();
            x.goal(0, 23, mode);
            for (int node = 0; node < 24; node++) {
                CHECK.due("what " + node + " had does not count", 0, x.state(node, 0, 2));
            }
            x.up(1, 2);
            x.step(1, 2);
            CHECK.due("2 has a lower neighbour", 0, x.state(2, 0, 2));
            for (int times = 1; times <= 5; times++) {
                x.step(2, 1);
                CHECK.due("1 was given a height", times, x.state(1, 0, 2));
                x.step(1, 2);
                CHECK.due("2 was given a height", times, x.state(2, 0, 2));
            }
        }
    }

    private static void stateOfChangesInMode2() {
        ReversalMesh x = new ReversalMesh();
        x.goal(0, 0, 2);
        CHECK.due("what the goal had does not count", 0, x.state(0, 0, 2));
        x.query(1, 0);
        CHECK.due("to ask is no height", 0, x.state(1, 0, 2));
        x.up(0, 1);
        x.drain(100);
        CHECK.due("found", 1, x.state(1, 0, 2));
        x.up(1, 2);
        x.drain(100);
        CHECK.due("2 saw one, but was given none", 0, x.state(2, 0, 2));
        x.down(0, 1);
        CHECK.due("given a new level", 2, x.state(1, 0, 2));
        x.down(1, 2);
        CHECK.due("lost", 3, x.state(1, 0, 2));
        x.up(0, 1);
        x.query(1, 0);
        x.drain(100);
        CHECK.due("found again", 4, x.state(1, 0, 2));
        CHECK.due("the goal was given none", 0, x.state(0, 0, 2));
    }

    /** Now is the same, so the second lost link gives node 1 the very height that it had. */
    private static void stateOfTheSameHeightAgain() {
        ReversalMesh x = Meshes.line(0, 1);
        for (int other = 2; other <= 4; other++) {
            x.up(1, other);
        }
        x.down(0, 1);
        CHECK.due("found, then a new level", 2, x.state(1, 0, 2));
        x.down(1, 2);
        CHECK.due("given it once more", 3, x.state(1, 0, 2));
        CHECK.due("and told", 3, x.down(1, 3));
        CHECK.due("given it once more", 4, x.state(1, 0, 2));
        CHECK.due("its time", 1, x.height(1, 0, 0));
    }

    private static void stateOfNotices() {
        ReversalMesh x = new ReversalMesh();
        x.goal(0, 0, 2);
        x.goal(5, 0, 2);
        x.up(1, 2);
        for (int times = 1; times <= 3; times++) {
            x.up(0, 1);
            x.query(2, 0);
            x.drain(100);
            CHECK.due("as often as before", times - 1, x.state(1, 0, 3));
            x.time(1);
            x.down(0, 1);
            x.drain(100);
            CHECK.due("1 noticed", times, x.state(1, 0, 3));
            CHECK.due("2 did not", 0, x.state(2, 0, 3));
            CHECK.due("nor 1 for the other goal", 0, x.state(1, 5, 3));
        }
        CHECK.due("nor did the goal", 0, x.state(0, 0, 3));
    }

    private static void stateRefusesWhats() {
        for (int bad : Edges.beyond(0, 3)) {
            Edges.refused(Edges.BOUNDS, Meshes.BUSY, "state(0, 0, " + bad + ")", x -> x.state(0, 0, bad));
        }
    }
}
