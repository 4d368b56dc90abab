/** Promises 1 to 7: a new object, goals, links, now, and messages that are delivered. */
final class LinkEdges {
    private static final Check CHECK = Edges.CHECK;

    private LinkEdges() {
    }

    static void under(Edges edges) {
        newObject(edges);
        goal(edges);
        up(edges);
        down(edges);
        time(edges);
        step(edges);
        drain(edges);
    }

    private static void newObject(Edges edges) {
        edges.at("Promise 1: A new object");
        edges.test("No links, no goals.",
                LinkEdges::newHasNoLinks, LinkEdges::newHasNoGoals, LinkEdges::newHasNothingElse,
                LinkEdges::newOnesStandApart);
    }

    private static void goal(Edges edges) {
        edges.at("Promise 2: goal");
        edges.test("A node is a goal, with a mode (0 .. 2).",
                LinkEdges::goalOfEachMode, LinkEdges::goalsAtTheLowestAndTheHighestNumbers,
                LinkEdges::oneNodeIsEveryGoal);
        edges.test("IndexOutOfBoundsException, when there is no such goal or node;",
                LinkEdges::goalRefusesGoals, LinkEdges::goalRefusesNodes);
        edges.test("IllegalArgumentException, for another mode;", LinkEdges::goalRefusesModes);
        edges.test("IllegalStateException, when the goal was made already.",
                LinkEdges::goalRefusesWhatIsMade, LinkEdges::goalIsMadeAfterARefusal);
    }

    private static void up(Edges edges) {
        edges.at("Promise 3: up");
        edges.test("A link appears: how many there are.",
                LinkEdges::upOfTheLowestAndTheHighestNode, LinkEdges::upOfTheFirstAndTheLastLink);
        edges.test("IndexOutOfBoundsException, when there is no such node;", LinkEdges::upRefusesNodes);
        edges.test("IllegalArgumentException, when both are one;", LinkEdges::upRefusesOneNodeTwice);
        edges.test("IllegalStateException, when it is there, or one has six.",
                LinkEdges::upRefusesWhatIsThere, LinkEdges::upTakesTheSixthAndRefusesTheSeventh);
    }

    private static void down(Edges edges) {
        edges.at("Promise 4: down");
        edges.test("A link vanishes: how many messages are lost.",
                LinkEdges::downLosesNone, LinkEdges::downLosesBothWays, LinkEdges::downLosesAFullWay);
        edges.test("IndexOutOfBoundsException, when there is no such node;", LinkEdges::downRefusesNodes);
        edges.test("IllegalStateException, when it is not there.", LinkEdges::downRefusesWhatIsNotThere);
    }

    private static void time(Edges edges) {
        edges.at("Promise 5: time");
        edges.test("Now is n more (1 .. 1000): now.", LinkEdges::timeByTheLeastAndTheMost);
        edges.test("IllegalArgumentException, when n is none of these.", LinkEdges::timeRefuses);
    }

    private static void step(Edges edges) {
        edges.at("Promise 6: step");
        edges.test("The oldest message from a to b is delivered: its kind, plus 3 times its goal.",
                LinkEdges::stepAnswersEachCode, LinkEdges::stepOfTheLowestAndTheHighestNode);
        edges.test("IndexOutOfBoundsException, when there is no such node;", LinkEdges::stepRefusesNodes);
        edges.test("IllegalStateException, when there is no such link, or none waits.",
                LinkEdges::stepRefusesWithoutLink, LinkEdges::stepRefusesWithoutMessage);
    }

    private static void drain(Edges edges) {
        edges.at("Promise 7: drain");
        edges.test("As long as messages wait, and n times at most (1 .. 2000), the oldest one is delivered of the way"
                + " that has some, with the lowest sender, of these the lowest receiver: how many were.",
                LinkEdges::drainWithoutMessages, LinkEdges::drainByTheLeastAndTheMost, LinkEdges::drainOfFewer,
                LinkEdges::drainByTheLowestSenderThenReceiver, LinkEdges::drainOfWhatIsSentMeanwhile);
        edges.test("IllegalArgumentException, when n is none of these.", LinkEdges::drainRefuses);
    }

    private static void newHasNoLinks() {
        CHECK.due("links", 0, new ReversalMesh().count(0));
        for (int i = 0; i < 24; i++) {
            int a = i;
            ReversalMesh x = new ReversalMesh();
            for (int j = 0; j < 24; j++) {
                int b = j;
                CHECK.state("down(" + a + ", " + b + ")", () -> x.down(a, b));
                CHECK.state("step(" + a + ", " + b + ")", () -> x.step(a, b));
            }
        }
    }

    private static void newHasNoGoals() {
        ReversalMesh x = new ReversalMesh();
        for (int i = 0; i < 6; i++) {
            int g = i;
            CHECK.bounds("query(0, " + g + ")", () -> x.query(0, g) ? 1 : 0);
            CHECK.bounds("next(23, " + g + ")", () -> x.next(23, g));
            CHECK.bounds("height(0, " + g + ", 0)", () -> x.height(0, g, 0));
            CHECK.bounds("saw(0, 1, " + g + ", 0)", () -> x.saw(0, 1, g, 0));
            CHECK.bounds("state(0, " + g + ", 0)", () -> x.state(0, g, 0));
            CHECK.bounds("send(0, " + g + ", 0)", () -> x.send(0, g, 0));
            CHECK.bounds("got(" + g + ", 0)", () -> x.got(g, 0));
        }
    }

    private static void newHasNothingElse() {
        ReversalMesh x = new ReversalMesh();
        CHECK.due("messages", 0, x.count(1));
        CHECK.due("now", 1, x.count(2));
        CHECK.due("packets", 0, x.count(3));
        CHECK.due("delivered", 0, x.count(4));
        CHECK.bounds("packet(0, 0)", () -> x.packet(0, 0));
        CHECK.bounds("move(0)", () -> x.move(0));
        CHECK.due("drain(2000)", 0, x.drain(2000));
    }

    private static void newOnesStandApart() {
        String before = Snapshot.of(Meshes.NEW);
        ReversalMesh other = Meshes.busy();
        CHECK.due("another mesh is busy", 10, other.count(0));
        CHECK.same("a new one is as before", before, Snapshot.of(Meshes.NEW));
    }

    private static void goalOfEachMode() {
        for (int mode = 0; mode <= 2; mode++) {
            ReversalMesh x = new ReversalMesh();
            x.goal(3, 7, mode);
            CHECK.due("mode " + mode + ": the goal's first field", mode == 2 ? 0 : -1, x.height(7, 3, 0));
            CHECK.due("mode " + mode + ": others have heights", mode == 2 ? 0 : 1, x.state(8, 3, 0));
        }
    }

    private static void goalsAtTheLowestAndTheHighestNumbers() {
        ReversalMesh x = new ReversalMesh();
        x.goal(0, 0, 0);
        x.goal(5, 23, 2);
        CHECK.due("goal 0 is node 0", -1, x.height(0, 0, 0));
        CHECK.due("goal 0 is not node 23", 0, x.height(23, 0, 0));
        CHECK.due("goal 5 is node 23", 1, x.state(23, 5, 0));
        CHECK.due("goal 5 is not node 0", 0, x.state(0, 5, 0));
        for (int i = 1; i < 5; i++) {
            int g = i;
            CHECK.bounds("goal " + g + " is not made", () -> x.next(0, g));
        }
    }

    private static void oneNodeIsEveryGoal() {
        ReversalMesh x = new ReversalMesh();
        for (int g = 0; g < 6; g++) {
            x.goal(g, 11, g % 3);
        }
        for (int g = 0; g < 6; g++) {
            CHECK.due("send to goal " + g, g, x.send(11, g, 50 + g));
            CHECK.due("is delivered", 50 + g, x.got(g, 0));
            CHECK.due("goal " + g + " has its mode", g % 3 == 2 ? 0 : 1, x.state(12, g, 0));
        }
    }

    private static void goalRefusesGoals() {
        for (int bad : Edges.beyond(0, 5)) {
            Edges.refused(Edges.BOUNDS, Meshes.BUSY, "goal(" + bad + ", 0, 0)", x -> goal(x, bad, 0, 0));
        }
    }

    private static void goalRefusesNodes() {
        for (int bad : Edges.beyond(0, 23)) {
            Edges.refused(Edges.BOUNDS, Meshes.BUSY, "goal(2, " + bad + ", 0)", x -> goal(x, 2, bad, 0));
        }
    }

    private static void goalRefusesModes() {
        for (int bad : Edges.beyond(0, 2)) {
            Edges.refused(Edges.ARGUMENT, Meshes.BUSY, "goal(2, 0, " + bad + ")", x -> goal(x, 2, 0, bad));
        }
    }

    private static void goalRefusesWhatIsMade() {
        for (int g : new int[] {0, 1, 5}) {
            for (int mode = 0; mode <= 2; mode++) {
                int told = mode;
                String what = "goal(" + g + ", 9, " + mode + ")";
                Edges.refused(Edges.STATE, Meshes.BUSY, what, x -> goal(x, g, 9, told));
            }
        }
        Edges.refused(Edges.STATE, Meshes.BUSY, "the very same goal", x -> goal(x, 0, 0, 2));
    }

    private static void goalIsMadeAfterARefusal() {
        ReversalMesh x = new ReversalMesh();
        CHECK.argument("goal(4, 2, 3)", () -> goal(x, 4, 2, 3));
        CHECK.bounds("goal(4, 24, 0)", () -> goal(x, 4, 24, 0));
        CHECK.due("goal(4, 2, 0)", 0, goal(x, 4, 2, 0));
        CHECK.due("its height", -1, x.height(2, 4, 0));
    }

    private static long goal(ReversalMesh x, int g, int node, int mode) {
        x.goal(g, node, mode);
        return 0;
    }

    private static void upOfTheLowestAndTheHighestNode() {
        ReversalMesh x = new ReversalMesh();
        CHECK.due("up(0, 23)", 1, x.up(0, 23));
        CHECK.due("up(23, 22)", 2, x.up(23, 22));
        CHECK.due("up(1, 0)", 3, x.up(1, 0));
        CHECK.due("down(0, 23)", 0, x.down(0, 23));
        CHECK.due("up(23, 0)", 3, x.up(23, 0));
    }

    private static void upOfTheFirstAndTheLastLink() {
        ReversalMesh x = new ReversalMesh();
        int links = 0;
        for (int node = 0; node < 24; node++) {
            for (int far = 1; far <= 3; far++) {
                links++;
                CHECK.due("up", links, x.up(node, (node + far) % 24));
            }
        }
        CHECK.due("all", 72, x.count(0));
        for (int i = 0; i < 24; i++) {
            int node = i;
            CHECK.state("a seventh at " + node, () -> x.up(node, (node + 12) % 24));
        }
        CHECK.due("still all", 72, x.count(0));
    }

    private static void upRefusesNodes() {
        for (int bad : Edges.beyond(0, 23)) {
            Edges.refused(Edges.BOUNDS, Meshes.BUSY, "up(" + bad + ", 12)", x -> x.up(bad, 12));
            Edges.refused(Edges.BOUNDS, Meshes.BUSY, "up(12, " + bad + ")", x -> x.up(12, bad));
        }
    }

    private static void upRefusesOneNodeTwice() {
        for (int node : new int[] {0, 12, 23}) {
            Edges.refused(Edges.ARGUMENT, Meshes.BUSY, "up(" + node + ", " + node + ")", x -> x.up(node, node));
        }
    }

    private static void upRefusesWhatIsThere() {
        Edges.refused(Edges.STATE, Meshes.BUSY, "up(0, 1)", x -> x.up(0, 1));
        Edges.refused(Edges.STATE, Meshes.BUSY, "up(1, 0)", x -> x.up(1, 0));
        Edges.refused(Edges.STATE, Meshes.BUSY, "up(5, 6), there, and 5 has six", x -> x.up(5, 6));
        Edges.refused(Edges.STATE, Meshes.FULL_WAY, "up(10, 1), on which 64 wait", x -> x.up(10, 1));
    }

    private static void upTakesTheSixthAndRefusesTheSeventh() {
        Edges.refused(Edges.STATE, Meshes.BUSY, "up(5, 12), the first has six", x -> x.up(5, 12));
        Edges.refused(Edges.STATE, Meshes.BUSY, "up(12, 5), the second has six", x -> x.up(12, 5));
        ReversalMesh y = new ReversalMesh();
        for (int other = 1; other <= 6; other++) {
            CHECK.due("up(0, " + other + ")", other, y.up(0, other));
        }
        for (int other = 1; other <= 6; other++) {
            CHECK.due("up(" + (10 + other) + ", 23)", 6 + other, y.up(10 + other, 23));
        }
        CHECK.state("up(0, 23), both have six", () -> y.up(0, 23));
        CHECK.state("up(0, 7)", () -> y.up(0, 7));
        CHECK.due("down(0, 1)", 0, y.down(0, 1));
        CHECK.state("up(0, 23), one has six", () -> y.up(0, 23));
        CHECK.due("up(0, 7)", 12, y.up(0, 7));
        CHECK.state("up(0, 1)", () -> y.up(0, 1));
    }

    private static void downLosesNone() {
        ReversalMesh x = new ReversalMesh();
        x.up(0, 23);
        CHECK.due("down(23, 0)", 0, x.down(23, 0));
        CHECK.due("links", 0, x.count(0));
    }

    private static void downLosesBothWays() {
        ReversalMesh x = new ReversalMesh();
        x.goal(0, 0, 0);
        x.goal(1, 0, 1);
        x.goal(2, 0, 2);
        x.up(0, 1);
        x.up(1, 2);
        CHECK.due("three to 1, two back; two each way beside", 9, x.count(1));
        CHECK.due("down(1, 0)", 5, x.down(1, 0));
        CHECK.due("the others wait", 4, x.count(1));
        x.up(0, 1);
        CHECK.due("step(0, 1)", 1, x.step(0, 1));
        CHECK.due("one was delivered", 4, x.down(0, 1));
    }

    private static void downLosesAFullWay() {
        ReversalMesh x = Meshes.fullWay();
        CHECK.due("two wait elsewhere", 2 + 64, x.count(1));
        CHECK.due("down(1, 10)", 64, x.down(1, 10));
        CHECK.state("step(1, 10)", () -> x.step(1, 10));
    }

    private static void downRefusesNodes() {
        for (int bad : Edges.beyond(0, 23)) {
            Edges.refused(Edges.BOUNDS, Meshes.BUSY, "down(" + bad + ", 0)", x -> x.down(bad, 0));
            Edges.refused(Edges.BOUNDS, Meshes.BUSY, "down(0, " + bad + ")", x -> x.down(0, bad));
            Edges.refused(Edges.BOUNDS, Meshes.BUSY, "down of one bad node twice", x -> x.down(bad, bad));
        }
    }

    private static void downRefusesWhatIsNotThere() {
        Edges.refused(Edges.STATE, Meshes.BUSY, "down(0, 2)", x -> x.down(0, 2));
        Edges.refused(Edges.STATE, Meshes.BUSY, "down(23, 22)", x -> x.down(23, 22));
        Edges.refused(Edges.STATE, Meshes.BUSY, "down(5, 5)", x -> x.down(5, 5));
        ReversalMesh y = Meshes.busy();
        y.down(0, 1);
        CHECK.state("down(0, 1) again", () -> y.down(0, 1));
        CHECK.state("down(1, 0) again", () -> y.down(1, 0));
        CHECK.due("links", 9, y.count(0));
    }

    private static void timeByTheLeastAndTheMost() {
        ReversalMesh x = new ReversalMesh();
        CHECK.due("time(1)", 2, x.time(1));
        CHECK.due("now", 2, x.count(2));
        CHECK.due("time(1000)", 1002, x.time(1000));
        CHECK.due("time(2)", 1004, x.time(2));
        CHECK.due("time(999)", 2003, x.time(999));
        CHECK.due("now", 2003, x.count(2));
    }

    private static void timeRefuses() {
        for (int bad : Edges.beyond(1, 1000)) {
            Edges.refused(Edges.ARGUMENT, Meshes.BUSY, "time(" + bad + ")", x -> x.time(bad));
        }
        Edges.refused(Edges.ARGUMENT, Meshes.BUSY, "time(-1)", x -> x.time(-1));
    }

    /** Each goal g has node 1 ask, then find and tell, then notice: an ASK, a HEIGHT and a CLEAR reach node 2. */
    private static void stepAnswersEachCode() {
        for (int g = 0; g < 6; g++) {
            ReversalMesh x = new ReversalMesh();
            x.goal(g, 0, 2);
            x.up(1, 2);
            x.query(1, g);
            CHECK.due("ASK of goal " + g, 3 * g, x.step(1, 2));
            x.up(0, 1);
            x.step(0, 1);
            CHECK.due("HEIGHT of goal " + g, 3 * g + 1, x.step(1, 2));
            x.down(0, 1);
            CHECK.due("HEIGHT of goal " + g, 3 * g + 1, x.step(1, 2));
            for (int told = 0; told < 3; told++) {
                CHECK.due("2 asked, then told twice", told == 0 ? 3 * g : 3 * g + 1, x.step(2, 1));
            }
            CHECK.due("1 noticed", 1, x.state(1, g, 3));
            CHECK.due("HEIGHT, by which 1 answered the ASK", 3 * g + 1, x.step(1, 2));
            CHECK.due("CLEAR of goal " + g, 3 * g + 2, x.step(1, 2));
        }
    }

    private static void stepOfTheLowestAndTheHighestNode() {
        ReversalMesh x = new ReversalMesh();
        x.goal(5, 23, 0);
        x.up(0, 23);
        CHECK.due("step(0, 23)", 16, x.step(0, 23));
        CHECK.due("step(23, 0)", 16, x.step(23, 0));
        CHECK.due("0 saw the goal", 23, x.next(0, 5));
    }

    private static void stepRefusesNodes() {
        for (int bad : Edges.beyond(0, 23)) {
            Edges.refused(Edges.BOUNDS, Meshes.BUSY, "step(" + bad + ", 0)", x -> x.step(bad, 0));
            Edges.refused(Edges.BOUNDS, Meshes.BUSY, "step(0, " + bad + ")", x -> x.step(0, bad));
            Edges.refused(Edges.BOUNDS, Meshes.BUSY, "step of one bad node twice", x -> x.step(bad, bad));
        }
    }

    private static void stepRefusesWithoutLink() {
        Edges.refused(Edges.STATE, Meshes.BUSY, "step(5, 12), no link", x -> x.step(5, 12));
        Edges.refused(Edges.STATE, Meshes.BUSY, "step(5, 5), no link", x -> x.step(5, 5));
        ReversalMesh y = Meshes.busy();
        y.down(5, 8);
        CHECK.state("step(5, 8), the link is gone", () -> y.step(5, 8));
        CHECK.state("step(8, 5), the link is gone", () -> y.step(8, 5));
    }

    private static void stepRefusesWithoutMessage() {
        Edges.refused(Edges.STATE, Meshes.BUSY, "step(0, 1), none waits", x -> x.step(0, 1));
        ReversalMesh y = new ReversalMesh();
        y.goal(0, 0, 2);
        y.up(0, 1);
        CHECK.state("step(1, 0), one waits the other way", () -> y.step(1, 0));
        CHECK.due("step(0, 1)", 1, y.step(0, 1));
        CHECK.state("step(0, 1), it was the last", () -> y.step(0, 1));
    }

    private static void drainWithoutMessages() {
        ReversalMesh x = new ReversalMesh();
        CHECK.due("drain(1)", 0, x.drain(1));
        CHECK.due("drain(2000)", 0, x.drain(2000));
        x.up(0, 1);
        CHECK.due("drain(1) of a link without goals", 0, x.drain(1));
    }

    /** Nodes 1 and 2 have no goal in reach, and raise themselves for ever. */
    private static void drainByTheLeastAndTheMost() {
        ReversalMesh x = new ReversalMesh();
        x.goal(0, 0, 0);
        x.up(1, 2);
        CHECK.due("drain(1)", 1, x.drain(1));
        CHECK.due("drain(2000)", 2000, x.drain(2000));
        CHECK.due("drain(1999)", 1999, x.drain(1999));
        // the first one tells node 2 of a lower neighbour; each of the others raises its receiver above its sender
        CHECK.due("4000 were delivered", 3999, Math.max(x.height(1, 0, 0), x.height(2, 0, 0)));
        CHECK.due("one waits", 1, x.count(1));
    }

    private static void drainOfFewer() {
        ReversalMesh x = new ReversalMesh();
        x.goal(0, 0, 0);
        x.up(0, 1);
        x.up(0, 2);
        CHECK.due("four wait", 4, x.count(1));
        CHECK.due("drain(3)", 3, x.drain(3));
        CHECK.due("one waits", 1, x.count(1));
        CHECK.due("drain(2)", 1, x.drain(2));
        CHECK.due("drain(1)", 0, x.drain(1));
    }

    /** Askers do nothing at an ASK, so that what still waits shows the order. */
    private static void drainByTheLowestSenderThenReceiver() {
        int[][] order = {{0, 1}, {0, 2}, {0, 23}, {1, 0}, {1, 2}, {2, 0}, {2, 1}, {23, 0}};
        for (int drained = 1; drained < order.length; drained++) {
            ReversalMesh x = new ReversalMesh();
            x.goal(0, 12, 2);
            for (int node : new int[] {23, 2, 1, 0}) {
                x.query(node, 0);
            }
            x.up(23, 0);
            x.up(2, 0);
            x.up(2, 1);
            x.up(1, 0);
            CHECK.due("drain(" + drained + ")", drained, x.drain(drained));
            for (int i = 0; i < order.length; i++) {
                int[] way = order[i];
                String what = "after drain(" + drained + ") step(" + way[0] + ", " + way[1] + ")";
                String want = i < drained ? "throws IllegalStateException" : "0";
                CHECK.same(what, want, Check.outcome(() -> x.step(way[0], way[1])));
            }
        }
    }

    /** The ASK goes 3 to 2 to 1 to 0, though each lower sender comes into it meanwhile, and the height back. */
    private static void drainOfWhatIsSentMeanwhile() {
        ReversalMesh x = new ReversalMesh();
        for (int node = 0; node < 3; node++) {
            x.up(node, node + 1);
        }
        x.goal(0, 0, 2);
        x.query(3, 0);
        CHECK.due("one waits", 1, x.count(1));
        CHECK.due("drain(1)", 1, x.drain(1));
        CHECK.due("2 asked 1 and 3", 2, x.count(1));
        CHECK.due("drain(1)", 1, x.drain(1));
        CHECK.due("2 to 1 was delivered, and 1 asked 0 and 2", 3, x.count(1));
        CHECK.due("drain(1)", 1, x.drain(1));
        CHECK.due("1 to 0 was delivered, before 2 to 3", 0, x.step(2, 3));
        CHECK.due("0 sent its height", 1, x.step(0, 1));
        x.drain(2000);
        CHECK.due("3 has a height", 3, x.height(3, 0, 3));
        CHECK.due("none waits", 0, x.count(1));
    }

    private static void drainRefuses() {
        for (int bad : Edges.beyond(1, 2000)) {
            Edges.refused(Edges.ARGUMENT, Meshes.BUSY, "drain(" + bad + ")", x -> x.drain(bad));
            CHECK.argument("drain(" + bad + "), though nothing waits", () -> new ReversalMesh().drain(bad));
        }
        Edges.refused(Edges.ARGUMENT, Meshes.BUSY, "drain(-1)", x -> x.drain(-1));
    }
}
