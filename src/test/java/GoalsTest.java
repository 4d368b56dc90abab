/** Promises 2 and 8 to 12 by their arguments: which exception is thrown, and which one first. */
public final class GoalsTest {
    private static final int[] BAD_NODES = {-1, 24, Integer.MIN_VALUE, Integer.MAX_VALUE};
    private static final int[] BAD_GOALS = {-1, 6, Integer.MIN_VALUE, Integer.MAX_VALUE};
    private static final int[] BAD_FIELDS = {-1, 5, Integer.MIN_VALUE, Integer.MAX_VALUE};
    private static final int[] BAD_STATES = {-1, 4, Integer.MIN_VALUE, Integer.MAX_VALUE};
    private static final Check CHECK = new Check("GoalsTest");

    public static void main(String[] args) {
        goalRefuses();
        goalsStandApart();
        callsWithAGoalRefuse();
        queryAsksOnce();
        heightRefuses();
        sawRefuses();
        stateRefuses();
        CHECK.end();
    }

    private static void goalRefuses() {
        ReversalMesh x = new ReversalMesh();
        x.goal(0, 5, 2);
        for (int bad : BAD_GOALS) {
            CHECK.bounds("no such goal", Check.act(() -> x.goal(bad, 0, 0)));
            CHECK.bounds("no such goal, nor mode", Check.act(() -> x.goal(bad, 0, 3)));
        }
        for (int bad : BAD_NODES) {
            CHECK.bounds("no such node", Check.act(() -> x.goal(1, bad, 0)));
            CHECK.bounds("no such node, nor mode", Check.act(() -> x.goal(1, bad, 3)));
            CHECK.bounds("no such node, made already", Check.act(() -> x.goal(0, bad, 0)));
        }
        for (int bad : new int[] {-1, 3, Integer.MIN_VALUE, Integer.MAX_VALUE}) {
            CHECK.argument("no such mode", Check.act(() -> x.goal(1, 0, bad)));
            CHECK.argument("no such mode, made already", Check.act(() -> x.goal(0, 0, bad)));
        }
        CHECK.state("made already", Check.act(() -> x.goal(0, 5, 2)));
        CHECK.state("made already, elsewhere", Check.act(() -> x.goal(0, 6, 1)));
        CHECK.bounds("what was refused is not made", () -> x.next(0, 1));
        CHECK.due("what was made stays", 5, x.height(5, 0, 4));
        CHECK.due("with its mode", 0, x.state(6, 0, 0));
    }

    private static void goalsStandApart() {
        ReversalMesh x = new ReversalMesh();
        x.goal(5, 23, 0);
        x.goal(0, 23, 1);
        x.goal(2, 0, 2);
        CHECK.due("goal 5 at its node", -1, x.height(23, 5, 0));
        CHECK.due("goal 5 elsewhere", 0, x.height(0, 5, 0));
        CHECK.due("goal 0 at its node", -1, x.height(23, 0, 0));
        CHECK.due("goal 2 at its node", 0, x.height(0, 2, 0));
        CHECK.due("goal 2 elsewhere", 0, x.state(23, 2, 0));
        CHECK.bounds("goal 1 is not made", () -> x.next(0, 1));
        for (int g : new int[] {0, 5}) {
            for (int node = 0; node < 24; node++) {
                CHECK.due("all have heights", 1, x.state(node, g, 0));
                CHECK.due("that do not count", 0, x.state(node, g, 2));
                CHECK.due("with their nodes", node, x.height(node, g, 4));
            }
        }
    }

    private static void callsWithAGoalRefuse() {
        ReversalMesh x = new ReversalMesh();
        x.goal(0, 0, 2);
        x.up(0, 1);
        x.drain(10);
        for (int bad : BAD_NODES) {
            CHECK.bounds("query", () -> x.query(bad, 0) ? 1 : 0);
            CHECK.bounds("next", () -> x.next(bad, 0));
            CHECK.bounds("height", () -> x.height(bad, 0, 0));
            CHECK.bounds("saw", () -> x.saw(bad, 0, 0, 0));
            CHECK.bounds("saw of", () -> x.saw(0, bad, 0, 0));
            CHECK.bounds("state", () -> x.state(bad, 0, 0));
            CHECK.bounds("send", () -> x.send(bad, 0, 0));
        }
        for (int bad : new int[] {1, 5, -1, 6, Integer.MIN_VALUE, Integer.MAX_VALUE}) {
            CHECK.bounds("query", () -> x.query(1, bad) ? 1 : 0);
            CHECK.bounds("next", () -> x.next(1, bad));
            CHECK.bounds("height", () -> x.height(0, bad, 0));
            CHECK.bounds("saw", () -> x.saw(1, 0, bad, 0));
            CHECK.bounds("state", () -> x.state(0, bad, 0));
            CHECK.bounds("send", () -> x.send(0, bad, 0));
            CHECK.bounds("got", () -> x.got(bad, 0));
        }
        CHECK.due("nothing was sent", 0, x.count(3));
    }

    private static void queryAsksOnce() {
        ReversalMesh x = new ReversalMesh();
        x.goal(0, 0, 2);
        x.goal(1, 0, 0);
        x.goal(2, 0, 1);
        x.up(1, 2);
        x.up(1, 3);
        x.drain(2000);
        int before = x.count(1);
        CHECK.no("FULL nodes have heights", x.query(1, 1));
        CHECK.no("PARTIAL nodes have heights", x.query(1, 2));
        CHECK.no("so has the goal", x.query(0, 0));
        CHECK.due("and ask nothing", before, x.count(1));
        CHECK.yes("a node without asks", x.query(1, 0));
        CHECK.due("each neighbour", before + 2, x.count(1));
        CHECK.due("it is asking", 1, x.state(1, 0, 1));
        CHECK.no("it asks once", x.query(1, 0));
        CHECK.due("and sends nothing more", before + 2, x.count(1));
        CHECK.due("others are not asking", 0, x.state(2, 0, 1));
        CHECK.due("nor for other goals", 0, x.state(1, 1, 1));
    }

    private static void heightRefuses() {
        ReversalMesh x = new ReversalMesh();
        x.goal(0, 0, 2);
        for (int bad : BAD_FIELDS) {
            CHECK.bounds("no such field", () -> x.height(0, 0, bad));
            CHECK.bounds("no such field, no height", () -> x.height(1, 0, bad));
        }
        for (int field = 0; field < 5; field++) {
            int told = field;
            CHECK.due("the goal's height", 0, x.height(0, 0, field));
            CHECK.state("no height", () -> x.height(1, 0, told));
        }
    }

    private static void sawRefuses() {
        ReversalMesh x = new ReversalMesh();
        x.goal(0, 7, 2);
        x.up(7, 1);
        CHECK.state("nothing was delivered yet", () -> x.saw(1, 7, 0, 0));
        x.drain(1);
        for (int bad : BAD_FIELDS) {
            CHECK.bounds("no such field", () -> x.saw(1, 7, 0, bad));
            CHECK.bounds("no such field, no link", () -> x.saw(2, 7, 0, bad));
        }
        CHECK.due("field 3", 0, x.saw(1, 7, 0, 3));
        CHECK.due("field 4", 7, x.saw(1, 7, 0, 4));
        CHECK.state("saw none", () -> x.saw(7, 1, 0, 0));
        CHECK.state("no link", () -> x.saw(2, 7, 0, 0));
        CHECK.state("no link to itself, though it has a height", () -> x.saw(7, 7, 0, 0));
        x.down(7, 1);
        CHECK.state("the link is gone", () -> x.saw(1, 7, 0, 0));
        x.up(1, 7);
        CHECK.state("what was seen is gone with it", () -> x.saw(1, 7, 0, 0));
    }

    private static void stateRefuses() {
        ReversalMesh x = new ReversalMesh();
        x.goal(0, 0, 2);
        for (int bad : BAD_STATES) {
            CHECK.bounds("no such what", () -> x.state(0, 0, bad));
        }
        CHECK.due("the goal has a height", 1, x.state(0, 0, 0));
        CHECK.due("is not asking", 0, x.state(0, 0, 1));
        CHECK.due("was given none since", 0, x.state(0, 0, 2));
        CHECK.due("noticed nothing", 0, x.state(0, 0, 3));
        CHECK.due("others have none", 0, x.state(1, 0, 0));
    }
}
