/** Promises 1, 3 to 7 and 17: links, now, messages and their ways, and what is counted. */
public final class LinksTest {
    private static final Check CHECK = new Check("LinksTest");

    public static void main(String[] args) {
        newObject();
        upAnswersLinks();
        upRefuses();
        sixAtANode();
        upSendsForEachGoal();
        upSendsAsksOfAskingNodes();
        downCountsLostMessages();
        lostMessagesStayLost();
        downRefuses();
        downTakesGoalsByNumbers();
        timeGoesOn();
        stepTakesTheOldest();
        stepRefuses();
        drainGoesByNumbers();
        drainStops();
        sixtyFourWait();
        counts();
        CHECK.end();
    }

    private static void newObject() {
        ReversalMesh x = new ReversalMesh();
        CHECK.due("NONE", -1, ReversalMesh.NONE);
        CHECK.due("new: links", 0, x.count(0));
        CHECK.due("new: messages", 0, x.count(1));
        CHECK.due("new: now", 1, x.count(2));
        CHECK.due("new: packets", 0, x.count(3));
        CHECK.due("new: delivered", 0, x.count(4));
        for (int g = 0; g < 6; g++) {
            int goal = g;
            CHECK.bounds("new: goal " + g, () -> x.next(0, goal));
        }
        for (int a = 0; a < 24; a++) {
            ReversalMesh y = new ReversalMesh();
            for (int b = 0; b < 24; b++) {
                int from = a;
                int to = b;
                CHECK.state("new: link " + a + " " + b, () -> y.down(from, to));
            }
        }
    }

    private static void upAnswersLinks() {
        ReversalMesh x = new ReversalMesh();
        CHECK.due("up(0, 23)", 1, x.up(0, 23));
        CHECK.due("up(23, 1)", 2, x.up(23, 1));
        CHECK.due("down(1, 23)", 0, x.down(1, 23));
        CHECK.due("up(1, 23) again", 2, x.up(1, 23));
        CHECK.due("links", 2, x.count(0));
    }

    private static void upRefuses() {
        ReversalMesh x = new ReversalMesh();
        x.up(0, 1);
        for (int bad : new int[] {-1, 24, Integer.MIN_VALUE, Integer.MAX_VALUE}) {
            CHECK.bounds("up(" + bad + ", 0)", () -> x.up(bad, 0));
            CHECK.bounds("up(0, " + bad + ")", () -> x.up(0, bad));
            CHECK.bounds("up of one bad node twice", () -> x.up(bad, bad));
        }
        CHECK.argument("up(5, 5)", () -> x.up(5, 5));
        CHECK.state("up(0, 1) again", () -> x.up(0, 1));
        CHECK.state("up(1, 0)", () -> x.up(1, 0));
        CHECK.due("links", 1, x.count(0));
    }

    private static void sixAtANode() {
        ReversalMesh x = new ReversalMesh();
        for (int other = 1; other <= 6; other++) {
            CHECK.due("up of six", other, x.up(0, other));
        }
        CHECK.state("the seventh, told first", () -> x.up(0, 7));
        CHECK.state("the seventh, told second", () -> x.up(7, 0));
        CHECK.argument("both are one, with six", () -> x.up(0, 0));
        x.down(3, 0);
        CHECK.due("the sixth again", 6, x.up(7, 0));
        CHECK.state("the seventh again", () -> x.up(3, 0));
        CHECK.state("that one link is gone", () -> x.down(0, 3));
        CHECK.due("another one is there", 0, x.down(0, 7));
    }

    private static void upSendsForEachGoal() {
        ReversalMesh x = new ReversalMesh();
        x.goal(4, 1, 2);
        x.goal(1, 0, 0);
        x.goal(2, 5, 1);
        x.up(0, 1);
        // goals 1 and 2: both have heights; goal 4: node 1 alone
        CHECK.due("messages", 5, x.count(1));
        CHECK.due("0 to 1, goal 1", 1 + 3, x.step(0, 1));
        CHECK.due("0 to 1, goal 2", 1 + 6, x.step(0, 1));
        CHECK.state("0 to 1 is empty", () -> x.step(0, 1));
        CHECK.due("1 to 0, goal 1", 1 + 3, x.step(1, 0));
        CHECK.due("1 to 0, goal 2", 1 + 6, x.step(1, 0));
        // node 0 was stuck for goal 2, and told node 1
        CHECK.due("1 to 0, goal 4", 1 + 12, x.step(1, 0));
        CHECK.due("what node 0 saw", 1, x.saw(0, 1, 4, 4));
    }

    private static void upSendsAsksOfAskingNodes() {
        ReversalMesh x = new ReversalMesh();
        x.goal(5, 9, 2);
        CHECK.yes("a node alone asks", x.query(3, 5));
        x.up(4, 3);
        CHECK.due("one ASK", 1, x.count(1));
        CHECK.due("its kind and goal", 15, x.step(3, 4));
        CHECK.due("4 asks in turn", 15, x.step(4, 3));
        CHECK.due("and is asking", 1, x.state(4, 5, 1));
        CHECK.due("3 asked already", 0, x.count(1));
    }

    private static void downCountsLostMessages() {
        ReversalMesh x = new ReversalMesh();
        x.goal(0, 0, 0);
        x.goal(1, 0, 1);
        x.up(0, 1);
        x.up(1, 2);
        CHECK.due("messages", 8, x.count(1));
        x.step(0, 1);
        CHECK.due("both ways are lost", 3, x.down(1, 0));
        CHECK.due("the rest wait", 4, x.count(1));
        CHECK.state("0 to 1 is gone", () -> x.step(0, 1));
        CHECK.due("up again", 2, x.up(0, 1));
        CHECK.due("only new messages wait", 8, x.count(1));
        CHECK.state("what was seen is gone", () -> x.saw(1, 0, 0, 0));
    }

    /** The messages that were lost are neither drained nor found on a link that appears later. */
    private static void lostMessagesStayLost() {
        ReversalMesh x = askingMesh();
        CHECK.due("lost", 2, x.down(1, 2));
        CHECK.due("lost", 2, x.down(1, 3));
        CHECK.due("drain goes on with the others", 4, x.drain(100));
        x.goal(1, 1, 2);
        x.up(1, 2);
        CHECK.due("new ones: two asks, and the new goal's height", 3, x.count(1));
        CHECK.due("ASK", 0, x.step(2, 1));
        CHECK.state("one was sent", () -> x.step(2, 1));
        CHECK.due("ASK", 0, x.step(1, 2));
        CHECK.due("HEIGHT of goal 1", 4, x.step(1, 2));
        CHECK.state("two were sent", () -> x.step(1, 2));
    }

    private static void downRefuses() {
        ReversalMesh x = new ReversalMesh();
        x.up(0, 1);
        for (int bad : new int[] {-1, 24, Integer.MIN_VALUE, Integer.MAX_VALUE}) {
            CHECK.bounds("down(" + bad + ", 0)", () -> x.down(bad, 0));
            CHECK.bounds("down(0, " + bad + ")", () -> x.down(0, bad));
        }
        CHECK.state("down(0, 2)", () -> x.down(0, 2));
        CHECK.state("down(0, 0)", () -> x.down(0, 0));
        CHECK.due("down(1, 0)", 0, x.down(1, 0));
        CHECK.state("down(0, 1) again", () -> x.down(0, 1));
        CHECK.due("links", 0, x.count(0));
    }

    /** Node 2 loses its lower neighbour for two goals, and tells node 3 of both: the lower goal first. */
    private static void downTakesGoalsByNumbers() {
        ReversalMesh x = new ReversalMesh();
        x.goal(4, 0, 2);
        x.goal(1, 0, 2);
        x.up(0, 1);
        x.up(1, 2);
        x.up(2, 3);
        x.query(3, 4);
        x.query(3, 1);
        x.drain(100);
        x.time(8);
        CHECK.due("down", 0, x.down(2, 1));
        for (int g = 1; g <= 4; g += 3) {
            CHECK.due("node 2 has a new level", 9, x.height(2, g, 0));
            CHECK.due("node 1 has its lower neighbour", 0, x.height(1, g, 0));
        }
        CHECK.due("node 2 told node 3 alone", 2, x.count(1));
        CHECK.due("goal 1 first", 4, x.step(2, 3));
        CHECK.due("then goal 4", 13, x.step(2, 3));
    }

    private static void timeGoesOn() {
        ReversalMesh x = new ReversalMesh();
        CHECK.due("time(1)", 2, x.time(1));
        CHECK.due("time(1000)", 1002, x.time(1000));
        for (int bad : new int[] {0, -1, 1001, Integer.MIN_VALUE, Integer.MAX_VALUE}) {
            CHECK.argument("time(" + bad + ")", () -> x.time(bad));
        }
        CHECK.due("now", 1002, x.count(2));
    }

    private static void stepTakesTheOldest() {
        ReversalMesh x = new ReversalMesh();
        x.up(2, 1);
        x.goal(3, 0, 0);
        x.goal(0, 0, 0);
        CHECK.due("messages", 4, x.count(1));
        CHECK.due("goal 3 was first", 10, x.step(2, 1));
        CHECK.due("node 1 is stuck, and tells", 4, x.count(1));
        CHECK.due("then goal 0", 1, x.step(2, 1));
        CHECK.due("node 1 is stuck again", 4, x.count(1));
        CHECK.due("1 to 2, the first height", 10, x.step(1, 2));
        CHECK.due("with the height when it was sent", 0, x.saw(2, 1, 3, 0));
        CHECK.due("though it is another one now", 1, x.height(1, 3, 0));
    }

    private static void stepRefuses() {
        ReversalMesh x = new ReversalMesh();
        x.goal(0, 0, 2);
        x.up(0, 1);
        for (int bad : new int[] {-1, 24, Integer.MIN_VALUE, Integer.MAX_VALUE}) {
            CHECK.bounds("step(" + bad + ", 0)", () -> x.step(bad, 0));
            CHECK.bounds("step(0, " + bad + ")", () -> x.step(0, bad));
        }
        CHECK.state("no link", () -> x.step(0, 2));
        CHECK.state("no link to itself", () -> x.step(0, 0));
        CHECK.state("none waits", () -> x.step(1, 0));
        CHECK.due("one waits", 1, x.step(0, 1));
        CHECK.state("none waits now", () -> x.step(0, 1));
    }

    /** Mode 2 nodes that asked do nothing at an ASK: drain's order shows in what still waits. */
    private static void drainGoesByNumbers() {
        int[][] order = {{1, 2}, {1, 3}, {1, 4}, {2, 1}, {2, 3}, {3, 1}, {3, 2}, {4, 1}};
        CHECK.due("messages", order.length, askingMesh().count(1));
        for (int i = 0; i < order.length; i++) {
            ReversalMesh y = askingMesh();
            if (i > 0) {
                CHECK.due("drain(" + i + ")", i, y.drain(i));
            }
            for (int j = 0; j < order.length; j++) {
                int[] way = order[j];
                String what = "after drain(" + i + ") step(" + way[0] + ", " + way[1] + ")";
                if (j < i) {
                    CHECK.state(what, () -> y.step(way[0], way[1]));
                } else {
                    CHECK.due(what, 0, y.step(way[0], way[1]));
                }
            }
        }
    }

    private static ReversalMesh askingMesh() {
        ReversalMesh x = new ReversalMesh();
        x.goal(0, 23, 2);
        for (int node = 1; node <= 4; node++) {
            x.query(node, 0);
        }
        x.up(3, 1);
        x.up(1, 2);
        x.up(3, 2);
        x.up(4, 1);
        return x;
    }

    private static void drainStops() {
        ReversalMesh x = new ReversalMesh();
        for (int bad : new int[] {0, -1, 2001, Integer.MIN_VALUE, Integer.MAX_VALUE}) {
            CHECK.argument("drain(" + bad + ")", () -> x.drain(bad));
        }
        CHECK.due("nothing waits", 0, x.drain(1));
        x.goal(0, 0, 0);
        x.up(1, 2);
        // without a goal in reach the two raise themselves for ever
        CHECK.due("drain(2000)", 2000, x.drain(2000));
        CHECK.due("drain(1)", 1, x.drain(1));
        CHECK.due("one still waits", 1, x.count(1));
    }

    /**
     * Nodes 0 and 1 raise each other by 1 in turns; node 1 tells node 10 too, which it saw far above,
     * and drain never comes to what waits for node 10.
     */
    private static void sixtyFourWait() {
        ReversalMesh x = fillingMesh();
        // one message goes round between 0 and 1, another one waits between 10 and 11
        int others = 2;
        x.drain(124);
        CHECK.due("63 wait", others + 63, x.count(1));
        x.drain(2);
        CHECK.due("64 wait", others + 64, x.count(1));
        x.drain(2);
        CHECK.due("the next one is lost", others + 64, x.count(1));
        x.drain(20);
        CHECK.due("more are lost", others + 64, x.count(1));
        for (int k = 0; k < 64; k++) {
            CHECK.due("step(1, 10)", 1, x.step(1, 10));
            CHECK.due("the oldest 64 are kept", 2 * k, x.saw(10, 1, 0, 0));
        }
        CHECK.state("no more", () -> x.step(1, 10));
        x.drain(4);
        CHECK.due("there is room again", 1, x.step(1, 10));
        CHECK.due("for what is sent now", x.height(1, 0, 0) - 2, x.saw(10, 1, 0, 0));
        ReversalMesh y = fillingMesh();
        y.drain(200);
        CHECK.due("lost with the link", 64, y.down(10, 1));
    }

    private static ReversalMesh fillingMesh() {
        ReversalMesh x = new ReversalMesh();
        x.goal(0, 23, 1);
        x.up(10, 11);
        x.drain(400);
        x.up(0, 1);
        x.up(1, 10);
        x.step(10, 1);
        x.step(0, 1);
        return x;
    }

    private static void counts() {
        ReversalMesh x = new ReversalMesh();
        x.goal(0, 0, 2);
        x.up(0, 1);
        x.up(1, 2);
        x.time(6);
        x.send(0, 0, 5);
        x.send(1, 0, 5);
        CHECK.due("links", 2, x.count(0));
        CHECK.due("messages", 1, x.count(1));
        CHECK.due("now", 7, x.count(2));
        CHECK.due("packets", 2, x.count(3));
        CHECK.due("delivered", 1, x.count(4));
        for (int bad : new int[] {-1, 5, Integer.MIN_VALUE, Integer.MAX_VALUE}) {
            CHECK.due("count(" + bad + ")", -1, x.count(bad));
        }
    }
}
