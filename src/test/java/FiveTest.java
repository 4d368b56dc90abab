/** Mode 2, rule by rule: asking, finding, yielding, noticing, clearing and lost links. */
public final class FiveTest {
    private static final Check CHECK = new Check("FiveTest");

    public static void main(String[] args) {
        madeGoalTellsNothing();
        askIsAnswered();
        askGoesOnOnce();
        askLetsFind();
        heightLetsAskingFind();
        heightIsOnlySeen();
        findsTheLowest();
        lostLinkStartsALevel();
        lostLinkOfALowerNeighbourLeft();
        lostLastLink();
        lostLinkOfTheGoal();
        yieldsToTheGreatestLevel();
        yieldsToTheLeastDepth();
        reflectsAndNotices();
        startsALevelOverAnothersReflection();
        clearWithoutItsLevel();
        clearKeepsWhatWasSeenOfTheGoal();
        clearReachesTheGoal();
        clearEndsAskingWithTheLevelAlone();
        clearLeavesOtherLevels();
        CHECK.end();
    }

    private static void height(ReversalMesh x, int node, int time, int origin, int bit, int depth) {
        int[] want = {time, origin, bit, depth, node};
        for (int field = 0; field < 5; field++) {
            CHECK.due("height of " + node + ", field " + field, want[field], x.height(node, 0, field));
        }
        CHECK.due(node + " has a height", 1, x.state(node, 0, 0));
    }

    private static void noHeight(ReversalMesh x, int node) {
        CHECK.state("no height of " + node, () -> x.height(node, 0, 0));
        CHECK.due(node + " has none", 0, x.state(node, 0, 0));
        CHECK.due(node + " has no next", -1, x.next(node, 0));
    }

    private static void sawNone(ReversalMesh x, int node, int other) {
        CHECK.state(node + " saw none of " + other, () -> x.saw(node, other, 0, 0));
    }

    /** The goal is node 0; the links are a line of the nodes, the last of which asked; all is delivered. */
    private static ReversalMesh line(int... nodes) {
        ReversalMesh x = new ReversalMesh();
        x.goal(0, 0, 2);
        for (int i = 1; i < nodes.length; i++) {
            x.up(nodes[i - 1], nodes[i]);
        }
        x.query(nodes[nodes.length - 1], 0);
        x.drain(1000);
        return x;
    }

    private static void madeGoalTellsNothing() {
        ReversalMesh x = new ReversalMesh();
        x.up(0, 1);
        x.goal(0, 0, 2);
        CHECK.due("no messages", 0, x.count(1));
        height(x, 0, 0, 0, 0, 0);
        noHeight(x, 1);
    }

    private static void askIsAnswered() {
        ReversalMesh x = new ReversalMesh();
        x.up(0, 1);
        x.up(0, 2);
        x.up(1, 2);
        x.goal(0, 0, 2);
        x.query(1, 0);
        CHECK.due("two asks", 2, x.count(1));
        CHECK.due("ASK", 0, x.step(1, 0));
        CHECK.due("one answer", 2, x.count(1));
        CHECK.state("not to others", () -> x.step(0, 2));
        CHECK.due("HEIGHT", 1, x.step(0, 1));
        height(x, 1, 0, 0, 0, 1);
        CHECK.due("not asking", 0, x.state(1, 0, 1));
        CHECK.due("given one", 1, x.state(1, 0, 2));
        CHECK.due("told each", 3, x.count(1));
        CHECK.due("next", 0, x.next(1, 0));
    }

    private static void askGoesOnOnce() {
        ReversalMesh x = new ReversalMesh();
        x.up(1, 2);
        x.up(2, 3);
        x.goal(0, 0, 2);
        x.query(1, 0);
        CHECK.due("ASK", 0, x.step(1, 2));
        CHECK.due("2 is asking", 1, x.state(2, 0, 1));
        CHECK.due("2 asked both", 2, x.count(1));
        CHECK.no("2 asked already", x.query(2, 0));
        CHECK.due("ASK back", 0, x.step(2, 1));
        CHECK.due("1 asks no more", 1, x.count(1));
        CHECK.due("1 is still asking", 1, x.state(1, 0, 1));
    }

    /** Node 1 saw the goal's height without asking; when node 2 asks it, it finds its own. */
    private static void askLetsFind() {
        ReversalMesh x = new ReversalMesh();
        x.goal(0, 0, 2);
        x.up(0, 1);
        x.up(1, 2);
        x.step(0, 1);
        noHeight(x, 1);
        x.query(2, 0);
        CHECK.due("ASK", 0, x.step(2, 1));
        height(x, 1, 0, 0, 0, 1);
        CHECK.due("1 never asked", 0, x.state(1, 0, 1));
        CHECK.due("it told both", 2, x.count(1));
        CHECK.due("HEIGHT", 1, x.step(1, 2));
        height(x, 2, 0, 0, 0, 2);
        CHECK.due("HEIGHT at the goal", 1, x.step(1, 0));
        CHECK.due("the goal saw it", 1, x.saw(0, 1, 0, 3));
        CHECK.due("the goal has no next", -1, x.next(0, 0));

        ReversalMesh y = new ReversalMesh();
        y.goal(0, 0, 2);
        y.up(0, 1);
        y.up(1, 2);
        y.step(0, 1);
        y.query(1, 0);
        CHECK.due("asking, though it saw one", 1, y.state(1, 0, 1));
        y.query(2, 0);
        y.step(2, 1);
        height(y, 1, 0, 0, 0, 1);
        CHECK.due("found by another's ASK", 0, y.state(1, 0, 1));
    }

    private static void heightLetsAskingFind() {
        ReversalMesh x = line(0, 1, 2, 3);
        for (int node = 1; node <= 3; node++) {
            height(x, node, 0, 0, 0, node);
            CHECK.due("next", node - 1, x.next(node, 0));
            CHECK.due("not asking", 0, x.state(node, 0, 1));
            CHECK.due("given once", 1, x.state(node, 0, 2));
        }
    }

    private static void heightIsOnlySeen() {
        ReversalMesh x = new ReversalMesh();
        x.goal(0, 0, 2);
        x.up(0, 1);
        CHECK.due("HEIGHT", 1, x.step(0, 1));
        noHeight(x, 1);
        CHECK.due("saw", 0, x.saw(1, 0, 0, 4));
        CHECK.due("nothing was sent", 0, x.count(1));
        CHECK.due("nothing given", 0, x.state(1, 0, 2));
    }

    /** Node 9 sees depth 2 of node 2 and depth 1 of node 3 before it asks: it goes above node 3. */
    private static void findsTheLowest() {
        ReversalMesh x = line(0, 1, 2);
        x.up(0, 3);
        x.query(3, 0);
        x.drain(100);
        x.up(9, 2);
        x.up(9, 3);
        x.drain(100);
        noHeight(x, 9);
        x.query(9, 0);
        x.step(9, 2);
        x.step(2, 9);
        height(x, 9, 0, 0, 0, 2);
        CHECK.due("next", 3, x.next(9, 0));
    }

    private static void lostLinkStartsALevel() {
        ReversalMesh x = line(0, 1, 2);
        x.time(4);
        CHECK.due("down", 0, x.down(0, 1));
        height(x, 1, 5, 1, 0, 0);
        CHECK.due("given twice", 2, x.state(1, 0, 2));
        CHECK.due("told 2", 1, x.count(1));
        CHECK.due("HEIGHT", 1, x.step(1, 2));
        CHECK.due("saw the new time", 5, x.saw(2, 1, 0, 0));
    }

    private static void lostLinkOfALowerNeighbourLeft() {
        ReversalMesh x = line(0, 1, 2);
        x.up(0, 2);
        x.drain(100);
        x.time(4);
        x.down(1, 2);
        height(x, 2, 0, 0, 0, 2);
        height(x, 1, 0, 0, 0, 1);
        CHECK.due("next", 0, x.next(2, 0));
        CHECK.due("nothing to tell", 0, x.count(1));
    }

    private static void lostLastLink() {
        ReversalMesh x = line(0, 1, 2);
        x.down(1, 2);
        noHeight(x, 2);
        CHECK.due("given and lost", 2, x.state(2, 0, 2));
        CHECK.due("which is not noticing", 0, x.state(2, 0, 3));
        x.down(0, 1);
        noHeight(x, 1);
        height(x, 0, 0, 0, 0, 0);
        CHECK.due("the goal lost nothing", 0, x.state(0, 0, 2));
        CHECK.yes("it may ask again", x.query(1, 0));
    }

    private static void lostLinkOfTheGoal() {
        ReversalMesh x = line(0, 1, 2);
        x.up(0, 3);
        x.query(3, 0);
        x.drain(100);
        x.down(0, 3);
        height(x, 0, 0, 0, 0, 0);
        CHECK.due("the goal was given none", 0, x.state(0, 0, 2));
        CHECK.due("and tells nothing", 0, x.count(1));
    }

    /** Node 1 leads to the goal; nodes 2 and 3 hang on it and on each other. */
    private static ReversalMesh triangle() {
        ReversalMesh x = new ReversalMesh();
        x.goal(0, 0, 2);
        x.up(0, 1);
        x.up(1, 2);
        x.up(1, 3);
        x.up(2, 3);
        x.query(2, 0);
        x.query(3, 0);
        x.drain(100);
        height(x, 1, 0, 0, 0, 1);
        height(x, 2, 0, 0, 0, 2);
        height(x, 3, 0, 0, 0, 2);
        return x;
    }

    private static void yieldsToTheGreatestLevel() {
        ReversalMesh x = triangle();
        x.time(2);
        x.down(0, 1);
        height(x, 1, 3, 1, 0, 0);
        x.step(1, 2);
        height(x, 2, 3, 1, 0, -1);
        CHECK.due("2 goes below 1, and to what it saw of 3", 3, x.next(2, 0));
        x.step(1, 3);
        height(x, 3, 0, 0, 0, 2);
        CHECK.due("3 still has 2, lower by its number", 2, x.next(3, 0));
        x.step(2, 3);
        height(x, 3, 3, 1, 1, 0);
        CHECK.due("3 reflected, over 2, the lowest", 2, x.next(3, 0));
        x.step(3, 2);
        height(x, 2, 3, 1, 1, -1);
        CHECK.due("2 goes to 1", 1, x.next(2, 0));
        x.step(2, 1);
        height(x, 1, 3, 1, 0, 0);
        CHECK.due("1 saw 3 lower for a while", 3, x.next(1, 0));
        x.step(3, 1);
        height(x, 1, 3, 1, 0, 0);
        CHECK.due("and then 2", 2, x.next(1, 0));
        x.step(2, 1);
        noHeight(x, 1);
        CHECK.due("1 notices", 1, x.state(1, 0, 3));
        x.drain(100);
        for (int node = 1; node <= 3; node++) {
            noHeight(x, node);
        }
        CHECK.due("only 1 noticed", 0, x.state(2, 0, 3) + x.state(3, 0, 3));
    }

    /** Node 5 sees depths -1 and 0 of the greatest level, and one old height: it goes below the least. */
    private static void yieldsToTheLeastDepth() {
        ReversalMesh x = triangle();
        x.up(5, 1);
        x.up(5, 2);
        x.up(5, 6);
        x.query(6, 0);
        x.drain(100);
        height(x, 5, 0, 0, 0, 2);
        height(x, 6, 0, 0, 0, 3);
        x.down(0, 1);
        x.step(1, 2);
        height(x, 2, 1, 1, 0, -1);
        x.step(1, 5);
        CHECK.due("5 has 2, lower by its number", 2, x.next(5, 0));
        x.step(2, 5);
        height(x, 5, 1, 1, 0, -2);
        CHECK.due("6 is lower then", 6, x.next(5, 0));
    }

    private static void reflectsAndNotices() {
        ReversalMesh x = line(0, 1, 2);
        x.time(4);
        x.down(0, 1);
        CHECK.due("HEIGHT", 1, x.step(1, 2));
        height(x, 2, 5, 1, 1, 0);
        CHECK.due("HEIGHT back", 1, x.step(2, 1));
        noHeight(x, 1);
        sawNone(x, 1, 2);
        CHECK.due("noticed", 1, x.state(1, 0, 3));
        CHECK.due("given, given, lost", 3, x.state(1, 0, 2));
        CHECK.due("CLEAR", 2, x.step(1, 2));
        noHeight(x, 2);
        sawNone(x, 2, 1);
        CHECK.due("2 noticed nothing", 0, x.state(2, 0, 3));
        CHECK.due("given, given, lost", 3, x.state(2, 0, 2));
        CHECK.due("CLEAR back", 2, x.step(2, 1));
        CHECK.due("that is all", 0, x.count(1));
        CHECK.due("lost once", 3, x.state(1, 0, 2));
        CHECK.yes("it may ask again", x.query(1, 0));
    }

    /** What node 4 told is still under way, so node 2 reflects at once, and node 4 sees that alone. */
    private static ReversalMesh reflectionOverFour() {
        ReversalMesh x = line(0, 1, 2);
        x.up(2, 4);
        x.step(2, 4);
        x.query(4, 0);
        x.step(4, 2);
        x.step(2, 4);
        height(x, 4, 0, 0, 0, 3);
        x.down(0, 1);
        x.step(1, 2);
        height(x, 2, 1, 1, 1, 0);
        x.time(6);
        return x;
    }

    private static void startsALevelOverAnothersReflection() {
        ReversalMesh x = reflectionOverFour();
        CHECK.due("HEIGHT", 1, x.step(2, 4));
        height(x, 4, 7, 4, 0, 0);
        CHECK.due("given twice", 2, x.state(4, 0, 2));
        CHECK.due("4 noticed nothing", 0, x.state(4, 0, 3));
        CHECK.due("4 told 2", 1, x.step(4, 2));
        CHECK.due("first the old one", 0, x.saw(2, 4, 0, 0));
        CHECK.due("then", 1, x.step(4, 2));
        CHECK.due("the new one", 7, x.saw(2, 4, 0, 0));
    }

    private static void clearWithoutItsLevel() {
        ReversalMesh x = reflectionOverFour();
        x.step(2, 4);
        x.step(2, 1);
        CHECK.due("1 noticed", 1, x.state(1, 0, 3));
        CHECK.due("CLEAR to 2", 2, x.step(1, 2));
        noHeight(x, 2);
        CHECK.due("CLEAR to 4", 2, x.step(2, 4));
        sawNone(x, 4, 2);
        noHeight(x, 4);
        CHECK.due("4: given, given, lost", 3, x.state(4, 0, 2));
        CHECK.due("4 told nothing of it", 2 + 1, x.count(1));
        CHECK.due("4's last height is under way", 1, x.step(4, 2));
    }

    private static void clearKeepsWhatWasSeenOfTheGoal() {
        ReversalMesh x = reflectionOverFour();
        x.step(2, 1);
        x.up(2, 0);
        x.step(0, 2);
        CHECK.due("2 saw the goal", 0, x.next(2, 0));
        height(x, 2, 1, 1, 1, 0);
        CHECK.due("CLEAR", 2, x.step(1, 2));
        noHeight(x, 2);
        CHECK.due("still saw the goal", 0, x.saw(2, 0, 0, 4));
        sawNone(x, 2, 1);
        sawNone(x, 2, 4);
        CHECK.due("HEIGHT at the goal", 1, x.step(2, 0));
        CHECK.due("the goal saw the level", 1, x.saw(0, 2, 0, 0));
        CHECK.due("CLEAR at the goal", 2, x.step(2, 0));
        sawNone(x, 0, 2);
        CHECK.yes("2 asks", x.query(2, 0));
        x.step(2, 0);
        x.step(0, 2);
        height(x, 2, 0, 0, 0, 1);
    }

    /** The goal keeps its height, forgets that level alone, and passes nothing on. */
    private static void clearReachesTheGoal() {
        ReversalMesh x = reflectionOverFour();
        x.step(2, 1);
        x.up(2, 0);
        x.up(0, 9);
        x.query(9, 0);
        x.step(0, 9);
        x.step(9, 0);
        x.step(0, 9);
        x.step(9, 0);
        CHECK.due("the goal saw 9", 1, x.saw(0, 9, 0, 3));
        x.step(1, 2);
        x.step(2, 0);
        int before = x.count(1);
        CHECK.due("CLEAR", 2, x.step(2, 0));
        CHECK.due("passes nothing on", before - 1, x.count(1));
        sawNone(x, 0, 2);
        CHECK.due("still saw 9", 1, x.saw(0, 9, 0, 3));
        height(x, 0, 0, 0, 0, 0);
        CHECK.due("was given none, lost none", 0, x.state(0, 0, 2));
    }

    private static void clearEndsAskingWithTheLevelAlone() {
        ReversalMesh x = reflectionOverFour();
        x.step(2, 1);
        x.up(2, 8);
        x.up(2, 9);
        CHECK.due("9 sees 2", 1, x.step(2, 9));
        CHECK.due("CLEAR to 2", 2, x.step(1, 2));
        CHECK.yes("8 asks", x.query(8, 0));
        CHECK.due("8 sees 2", 1, x.step(2, 8));
        height(x, 8, 1, 1, 1, 1);
        CHECK.due("CLEAR to 8", 2, x.step(2, 8));
        noHeight(x, 8);
        CHECK.due("8 is not asking", 0, x.state(8, 0, 1));
        CHECK.due("8: given, lost", 2, x.state(8, 0, 2));
        CHECK.yes("9 asks", x.query(9, 0));
        CHECK.due("CLEAR to 9", 2, x.step(2, 9));
        sawNone(x, 9, 2);
        noHeight(x, 9);
        CHECK.due("9 is still asking", 1, x.state(9, 0, 1));
        CHECK.due("9 was given none", 0, x.state(9, 0, 2));
    }

    private static void clearLeavesOtherLevels() {
        ReversalMesh x = reflectionOverFour();
        x.step(2, 4);
        x.up(4, 6);
        x.query(6, 0);
        x.step(4, 6);
        height(x, 6, 7, 4, 0, 1);
        x.step(6, 4);
        x.step(6, 4);
        CHECK.due("4 saw 6", 1, x.saw(4, 6, 0, 3));
        x.step(2, 1);
        x.step(1, 2);
        CHECK.due("CLEAR to 4", 2, x.step(2, 4));
        sawNone(x, 4, 2);
        CHECK.due("4 still saw 6", 7, x.saw(4, 6, 0, 0));
        height(x, 4, 7, 4, 1, 0);
        CHECK.due("4 yielded to the one level left", 3, x.state(4, 0, 2));
    }
}
