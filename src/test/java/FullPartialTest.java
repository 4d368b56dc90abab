/** Modes 0 and 1: who is told, who is stuck, and how far it rises. */
public final class FullPartialTest {
    private static final Check CHECK = new Check("FullPartialTest");

    public static void main(String[] args) {
        for (int mode = 0; mode < 2; mode++) {
            madeGoalIsTold(mode);
            goalIsNeverStuck(mode);
            stuckNeedsAllNeighbours(mode);
            lostLinkMakesStuck(mode);
            aNodeAloneStays(mode);
            lowestLowerIsNext(mode);
        }
        fullGoesAboveAll();
        partialGoesAboveTheLeast();
        partialKeepsItsSecondField();
        CHECK.end();
    }

    private static void height(ReversalMesh x, int node, int a, int b) {
        CHECK.due("height of " + node + ", a", a, x.height(node, 0, 0));
        CHECK.due("height of " + node + ", b", b, x.height(node, 0, 1));
        CHECK.due("height of " + node + ", field 2", 0, x.height(node, 0, 2));
        CHECK.due("height of " + node + ", field 3", 0, x.height(node, 0, 3));
        CHECK.due("height of " + node + ", node", node, x.height(node, 0, 4));
    }

    private static void madeGoalIsTold(int mode) {
        ReversalMesh x = new ReversalMesh();
        x.up(0, 1);
        x.up(1, 2);
        x.goal(0, 1, mode);
        CHECK.due("each tells each neighbour", 4, x.count(1));
        height(x, 1, -1, 0);
        height(x, 0, 0, 0);
        CHECK.due("no next before it saw", -1, x.next(0, 0));
        CHECK.due("step(1, 0)", 1, x.step(1, 0));
        CHECK.due("saw the goal", -1, x.saw(0, 1, 0, 0));
        CHECK.due("by its number", 1, x.saw(0, 1, 0, 4));
        CHECK.due("next", 1, x.next(0, 0));
        x.drain(10);
        CHECK.due("nobody was stuck", 0, x.state(0, 0, 2) + x.state(1, 0, 2) + x.state(2, 0, 2));
    }

    private static void goalIsNeverStuck(int mode) {
        ReversalMesh x = new ReversalMesh();
        x.goal(0, 1, mode);
        x.up(0, 1);
        x.up(1, 2);
        CHECK.due("drain", 4, x.drain(100));
        CHECK.due("the goal saw", 0, x.saw(1, 0, 0, 0));
        CHECK.due("has no next", -1, x.next(1, 0));
        x.down(1, 2);
        height(x, 1, -1, 0);
        CHECK.due("was given none", 0, x.state(1, 0, 2));
        CHECK.due("and tells nothing", 0, x.count(1));
    }

    /** Node 1 saw a higher neighbour, but not both: it waits for the other one. */
    private static void stuckNeedsAllNeighbours(int mode) {
        ReversalMesh x = new ReversalMesh();
        x.goal(0, 23, mode);
        x.up(1, 2);
        x.up(1, 3);
        x.step(2, 1);
        CHECK.due("not stuck yet", 0, x.state(1, 0, 2));
        x.step(3, 1);
        CHECK.due("stuck", 1, x.state(1, 0, 2));
        height(x, 1, 1, 0);
        CHECK.due("told both", 4, x.count(1));
        x.step(1, 2);
        CHECK.due("first what it had before", 0, x.saw(2, 1, 0, 0));
        CHECK.due("which is lower", 1, x.next(2, 0));
        CHECK.due("by its number alone", 0, x.state(2, 0, 2));
        x.step(1, 2);
        CHECK.due("then the new one", 1, x.saw(2, 1, 0, 0));
        CHECK.due("which makes it stuck", 1, x.state(2, 0, 2));
        height(x, 2, 2, 0);
    }

    private static void lostLinkMakesStuck(int mode) {
        ReversalMesh x = new ReversalMesh();
        x.goal(0, 0, mode);
        x.up(0, 3);
        x.up(3, 5);
        x.up(0, 5);
        x.drain(100);
        CHECK.due("nobody was stuck", 0, x.state(3, 0, 2) + x.state(5, 0, 2));
        x.down(0, 5);
        CHECK.due("5 has 3, which is lower by its number", 3, x.next(5, 0));
        CHECK.due("not stuck", 0, x.state(5, 0, 2));
        x.down(3, 0);
        CHECK.due("3 has only 5, which is higher", 1, x.state(3, 0, 2));
        height(x, 3, 1, 0);
        CHECK.due("it tells 5", 1, x.step(3, 5));
        height(x, 5, 2, 0);
        CHECK.due("noticing is not for these modes", 0, x.state(5, 0, 3) + x.state(3, 0, 3));
    }

    private static void aNodeAloneStays(int mode) {
        ReversalMesh x = new ReversalMesh();
        x.goal(0, 0, mode);
        x.up(0, 1);
        x.drain(100);
        x.down(0, 1);
        height(x, 1, 0, 0);
        CHECK.due("without neighbours it is not stuck", 0, x.state(1, 0, 2));
        CHECK.due("and has no next", -1, x.next(1, 0));
    }

    private static void lowestLowerIsNext(int mode) {
        ReversalMesh x = new ReversalMesh();
        x.goal(0, 23, mode);
        x.up(9, 4);
        x.up(9, 6);
        x.up(9, 2);
        x.up(9, 12);
        for (int other : new int[] {6, 12, 4, 2}) {
            x.step(other, 9);
        }
        CHECK.due("of equal fields the lowest number", 2, x.next(9, 0));
        x.up(9, 23);
        x.step(23, 9);
        CHECK.due("the goal is lower", 23, x.next(9, 0));
    }

    /** Node 5 sees two neighbours, of a 1 and a 2: FULL goes above both. */
    private static void fullGoesAboveAll() {
        ReversalMesh x = unevenNeighbours(0);
        height(x, 5, 3, 0);
        CHECK.due("given once", 1, x.state(5, 0, 2));
        CHECK.due("told both", 1, x.step(5, 1));
        CHECK.due("told both", 1, x.step(5, 1));
        CHECK.due("what 1 saw", 3, x.saw(1, 5, 0, 0));
    }

    /** The same for PARTIAL: it goes above the least, and below the other one with b. */
    private static void partialGoesAboveTheLeast() {
        ReversalMesh x = unevenNeighbours(1);
        height(x, 5, 2, -1);
        x.step(5, 1);
        x.step(5, 1);
        CHECK.due("what 1 saw of a", 2, x.saw(1, 5, 0, 0));
        CHECK.due("what 1 saw of b", -1, x.saw(1, 5, 0, 1));
    }

    /** Nodes 1 and 2 are raised by neighbours 10 and 20 to a 1 and to a 2; then node 5 sees them. */
    private static ReversalMesh unevenNeighbours(int mode) {
        ReversalMesh x = new ReversalMesh();
        x.goal(0, 0, mode);
        x.up(1, 10);
        x.step(10, 1);
        height(x, 1, 1, 0);
        x.up(20, 2);
        x.step(20, 2);
        height(x, 2, 1, 0);
        x.step(2, 20);
        x.step(2, 20);
        height(x, 20, 2, 0);
        x.up(5, 1);
        x.up(5, 20);
        x.step(1, 5);
        CHECK.due("5 waits for 20", 0, x.state(5, 0, 2));
        x.step(20, 5);
        return x;
    }

    /** Node 5 has b -1 and sees one neighbour far above: its new a is that of nobody, so b stays. */
    private static void partialKeepsItsSecondField() {
        ReversalMesh x = unevenNeighbours(1);
        // 1 sees 10 and 5: it loses 10, sees 5 with (2, -1) alone, and goes to (3, 0)
        x.step(5, 1);
        x.step(5, 1);
        x.down(1, 10);
        height(x, 1, 3, 0);
        x.down(5, 20);
        height(x, 5, 2, -1);
        x.step(1, 5);
        height(x, 5, 4, -1);
        CHECK.due("given twice", 2, x.state(5, 0, 2));
    }
}
