/** The terms that all modes share: nodes, links, messages, now, goals, heights, packets, exceptions. */
final class TermsEdges {
    private static final Check CHECK = Edges.CHECK;

    private TermsEdges() {
    }

    static void under(Edges edges) {
        edges.at("Terms");
        nodesAndLinks(edges);
        goalsAndHeights(edges);
        messages(edges);
        comingAndGoing(edges);
        edges.test("PACKETS 0, 1, .. (up to 200) carry a word from a node to a goal; they go to the node's NEXT:"
                + " its lowest lower neighbour.",
                TermsEdges::packetsGoToTheLowest, TermsEdges::packetsCarryAnyWord);
        edges.test("At the goal they are delivered.", TermsEdges::packetsAreDeliveredAtTheirGoalAlone);
        edges.test("Of several exceptions the first one told is thrown.",
                TermsEdges::firstOfSeveralExceptionsForGoals, TermsEdges::firstOfSeveralExceptionsForLinks,
                TermsEdges::firstOfSeveralExceptionsForHeights, TermsEdges::firstOfSeveralExceptionsForPackets);
        edges.test("The constants: `NONE = -1`: Nothing there.",
                () -> CHECK.due("NONE", -1, ReversalMesh.NONE));
    }

    private static void nodesAndLinks(Edges edges) {
        edges.test("NODES 0 .. 23, LINKS between two of them, up to six at a node: its NEIGHBOURS.",
                () -> nodeWithNeighbours(0), () -> nodeWithNeighbours(1), () -> nodeWithNeighbours(6),
                TermsEdges::neighboursThatCameAndWent, TermsEdges::linksOfTheLowestAndTheHighestNode);
        edges.test("On each link messages go both ways, each way in the order in which they were sent;",
                TermsEdges::messagesGoBothWays, TermsEdges::messagesComeInTheirOrder);
        edges.test("they wait until they are delivered, one by one;", TermsEdges::messagesWait);
        edges.test("one that finds 64 that wait its way is lost.",
                TermsEdges::the64thWaitsAndThe65thIsLost, TermsEdges::theOldest64AreKept,
                TermsEdges::oneDeliveredMakesRoomForOne, TermsEdges::aWayGoesRoundIn64Places,
                TermsEdges::theOtherWaysHaveRoom, TermsEdges::anAskIsLostToo, TermsEdges::aClearIsLostToo,
                TermsEdges::aLinkThatAppearsAgainIsEmpty);
        edges.test("NOW is a number, 1 at first.", TermsEdges::nowIsOne);
    }

    private static void goalsAndHeights(Edges edges) {
        edges.test("GOALS 0 .. 5, none at first, each a node with a MODE.", TermsEdges::sixGoals);
        edges.test("For each goal a node has a HEIGHT or none, what it SAW of each neighbour (a height, or none),"
                + " and whether it is ASKING (mode 2).",
                TermsEdges::goalsStandApart, TermsEdges::askingIsOfMode2Alone);
        edges.test("Heights are told by five FIELDS, the last one being the node; one is LOWER than another,"
                + " if it is in the first field in which they differ.",
                TermsEdges::lowerInTheFirstField, TermsEdges::lowerInTheSecondField,
                TermsEdges::lowerInTheThirdField, TermsEdges::lowerInTheFourthField,
                TermsEdges::lowerInTheFifthField);
        edges.test("A node's LOWER neighbours are those that it saw with a height lower than its own.",
                TermsEdges::lowerByWhatWasSeen);
    }

    private static void messages(Edges edges) {
        edges.test("MESSAGES are of one goal: 0 ASK; 1 HEIGHT, with the sender's height when it was sent;"
                + " 2 CLEAR, with two numbers.",
                TermsEdges::aMessageIsOfOneGoal, TermsEdges::aHeightIsTheOneOfItsSending);
        edges.test("A node TELLS its height: a HEIGHT to each neighbour, by their numbers.",
                () -> tellsNeighbours(0), () -> tellsNeighbours(1), () -> tellsNeighbours(5));
        edges.test("When several goals or neighbours are concerned, goals go by their numbers, then neighbours.",
                TermsEdges::goalsByTheirNumbersOverANewLink, TermsEdges::goalsByTheirNumbersAfterALostOne);
    }

    private static void comingAndGoing(Edges edges) {
        edges.test("A link APPEARS: for each goal, first the node told first, then the other one: with a height it"
                + " sends a HEIGHT to the other; without, when it is asking, an ASK.",
                TermsEdges::linkAppearsBetweenHeights, TermsEdges::linkAppearsBesideOneWithout,
                TermsEdges::linkAppearsBesideAskers);
        edges.test("A link VANISHES: what waits on it is lost; for each goal, first the node told first, then the"
                + " other one, lost a link.",
                TermsEdges::linkVanishesWithItsMessages, TermsEdges::linkVanishesBesideOthers,
                TermsEdges::linkVanishesForBoth);
    }

    private static void nodeWithNeighbours(int many) {
        ReversalMesh x = new ReversalMesh();
        x.goal(0, 23, 2);
        for (int other = 0; other < many; other++) {
            x.up(9, other);
        }
        CHECK.yes("query(9, 0)", x.query(9, 0));
        CHECK.due("an ASK for each neighbour", many, x.count(1));
        for (int other = 0; other < many; other++) {
            CHECK.due("step(9, " + other + ")", 0, x.step(9, other));
            CHECK.due("it asks in turn", 1, x.state(other, 0, 1));
        }
        CHECK.due("they asked back", many, x.count(1));
    }

    /** Six neighbours, of which the first, a middle and the last one vanish, and three others appear. */
    private static void neighboursThatCameAndWent() {
        ReversalMesh x = new ReversalMesh();
        x.goal(0, 23, 2);
        for (int other = 2; other <= 12; other += 2) {
            x.up(other, 7);
        }
        for (int other : new int[] {2, 6, 12}) {
            x.down(7, other);
        }
        for (int other : new int[] {22, 0, 9}) {
            x.up(7, other);
        }
        CHECK.state("a seventh", () -> x.up(7, 2));
        x.query(7, 0);
        CHECK.due("six are asked", 6, x.count(1));
        for (int other : new int[] {0, 4, 8, 9, 10, 22}) {
            CHECK.due("step(7, " + other + ")", 0, x.step(7, other));
        }
    }

    private static void linksOfTheLowestAndTheHighestNode() {
        ReversalMesh x = new ReversalMesh();
        CHECK.due("up(0, 23)", 1, x.up(0, 23));
        x.goal(0, 23, 0);
        CHECK.due("step(23, 0)", 1, x.step(23, 0));
        CHECK.due("next(0, 0)", 23, x.next(0, 0));
        CHECK.bounds("no node 24", () -> x.up(0, 24));
        CHECK.bounds("no node -1", () -> x.up(-1, 23));
        CHECK.due("down(23, 0)", 1, x.down(23, 0));
    }

    private static void messagesGoBothWays() {
        ReversalMesh x = new ReversalMesh();
        x.goal(0, 0, 0);
        x.up(0, 1);
        CHECK.due("both wait", 2, x.count(1));
        CHECK.due("step(1, 0)", 1, x.step(1, 0));
        CHECK.due("what 0 saw", 0, x.saw(0, 1, 0, 0));
        CHECK.due("step(0, 1)", 1, x.step(0, 1));
        CHECK.due("what 1 saw", -1, x.saw(1, 0, 0, 0));
    }

    private static void messagesComeInTheirOrder() {
        ReversalMesh x = new ReversalMesh();
        x.up(0, 1);
        int[] order = {5, 0, 3, 1, 4, 2};
        for (int g : order) {
            x.goal(g, 23, 0);
        }
        for (int g : order) {
            CHECK.due("step(0, 1)", 3 * g + 1, x.step(0, 1));
        }
        for (int g : order) {
            CHECK.due("step(1, 0)", 3 * g + 1, x.step(1, 0));
        }
    }

    private static void messagesWait() {
        ReversalMesh x = new ReversalMesh();
        x.goal(0, 0, 0);
        x.up(0, 1);
        x.time(1000);
        x.up(2, 3);
        x.down(2, 3);
        x.goal(1, 5, 2);
        x.query(0, 0);
        x.send(1, 0, 5);
        CHECK.due("both wait", 2, x.count(1));
        CHECK.state("nothing was seen", () -> x.saw(1, 0, 0, 0));
        CHECK.due("step(0, 1)", 1, x.step(0, 1));
        CHECK.due("one waits", 1, x.count(1));
    }

    private static void the64thWaitsAndThe65thIsLost() {
        int elsewhere = 2;
        CHECK.due("63 wait", elsewhere + 63, Meshes.wayWith(63).count(1));
        CHECK.due("64 wait", elsewhere + 64, Meshes.wayWith(64).count(1));
        CHECK.due("the 65th is lost", elsewhere + 64, Meshes.wayWith(65).count(1));
        CHECK.due("so is the 66th", elsewhere + 64, Meshes.wayWith(66).count(1));
        CHECK.due("63 vanish with the link", 63, Meshes.wayWith(63).down(1, 10));
        CHECK.due("64 vanish with the link", 64, Meshes.wayWith(65).down(1, 10));
    }

    private static void theOldest64AreKept() {
        ReversalMesh x = Meshes.wayWith(70);
        for (int k = 0; k < 64; k++) {
            CHECK.due("step(1, 10)", 1, x.step(1, 10));
            CHECK.due("the height of its sending", 2 * k, x.saw(10, 1, 0, 0));
        }
        CHECK.state("no more", () -> x.step(1, 10));
    }

    private static void oneDeliveredMakesRoomForOne() {
        ReversalMesh x = Meshes.wayWith(64);
        CHECK.due("step(1, 10)", 1, x.step(1, 10));
        x.drain(2);
        CHECK.due("the 65th waits", 2 + 64, x.count(1));
        x.drain(2);
        CHECK.due("the 66th is lost", 2 + 64, x.count(1));
        CHECK.due("64 vanish with the link", 64, x.down(1, 10));
    }

    /** 40 of 64 are delivered, 40 others come behind the rest: all in their order, and no more than 64. */
    private static void aWayGoesRoundIn64Places() {
        ReversalMesh x = Meshes.wayWith(64);
        for (int k = 0; k < 40; k++) {
            x.step(1, 10);
        }
        x.drain(2 * 40);
        CHECK.due("64 wait", 2 + 64, x.count(1));
        x.drain(2);
        CHECK.due("no more", 2 + 64, x.count(1));
        for (int k = 40; k < 104; k++) {
            CHECK.due("step(1, 10)", 1, x.step(1, 10));
            CHECK.due("the height of its sending", 2 * k, x.saw(10, 1, 0, 0));
        }
        CHECK.state("no more", () -> x.step(1, 10));
    }

    private static void theOtherWaysHaveRoom() {
        ReversalMesh x = Meshes.fullWay();
        int before = x.count(1);
        x.goal(1, 23, 0);
        // three links are told both ways, but there is no room from node 1 to node 10
        CHECK.due("five of six wait", before + 5, x.count(1));
        CHECK.due("a full way, and one the other way", 64 + 1, x.down(1, 10));
    }

    private static void anAskIsLostToo() {
        ReversalMesh x = Meshes.fullWay();
        x.goal(1, 23, 2);
        int before = x.count(1);
        CHECK.yes("query(1, 1)", x.query(1, 1));
        CHECK.due("is asking", 1, x.state(1, 1, 1));
        CHECK.due("only node 0 is asked", before + 1, x.count(1));
        for (int k = 0; k < 64; k++) {
            CHECK.due("step(1, 10)", 1, x.step(1, 10));
        }
        CHECK.state("no ASK", () -> x.step(1, 10));
        CHECK.no("query(1, 1) again", x.query(1, 1));
    }

    /** Node 1 gets a height for goal 1 over node 22, loses it with node 0, and finds no room for its CLEAR. */
    private static void aClearIsLostToo() {
        ReversalMesh x = Meshes.fullWay();
        x.goal(1, 22, 2);
        x.up(22, 1);
        x.query(0, 1);
        Meshes.stepAll(x, 0, 1);
        Meshes.stepAll(x, 1, 22);
        Meshes.stepAll(x, 22, 1);
        Meshes.stepAll(x, 1, 0);
        CHECK.due("0 has a height over 1", 2, x.height(0, 1, 3));
        x.down(1, 22);
        Meshes.stepAll(x, 1, 0);
        CHECK.due("0 reflected", 1, x.height(0, 1, 2));
        Meshes.stepAll(x, 0, 1);
        CHECK.due("1 noticed", 1, x.state(1, 1, 3));
        Meshes.stepAll(x, 1, 0);
        CHECK.due("0 was cleared", 0, x.state(0, 1, 0));
        for (int k = 0; k < 64; k++) {
            CHECK.due("step(1, 10)", 1, x.step(1, 10));
        }
        CHECK.state("no CLEAR", () -> x.step(1, 10));
    }

    private static void aLinkThatAppearsAgainIsEmpty() {
        ReversalMesh x = Meshes.fullWay();
        x.down(1, 10);
        x.up(10, 1);
        CHECK.due("step(1, 10)", 1, x.step(1, 10));
        CHECK.due("with the height of now", x.height(1, 0, 0), x.saw(10, 1, 0, 0));
        CHECK.state("no more", () -> x.step(1, 10));
    }

    private static void nowIsOne() {
        CHECK.due("now", 1, new ReversalMesh().count(2));
        CHECK.due("one more", 2, new ReversalMesh().time(1));
        ReversalMesh x = Meshes.line(0, 1, 2);
        x.down(0, 1);
        CHECK.due("the time of a new level", 1, x.height(1, 0, 0));
        ReversalMesh y = Meshes.line(0, 1, 2);
        y.time(1);
        y.down(0, 1);
        CHECK.due("the time of a new level, later", 2, y.height(1, 0, 0));
    }

    private static void sixGoals() {
        ReversalMesh x = new ReversalMesh();
        for (int i = 0; i <= 5; i++) {
            int g = i;
            CHECK.bounds("goal " + g + " is not made", () -> x.next(0, g));
            x.goal(g, 4 * g, g % 3);
            CHECK.due("goal " + g + " is made", -1, x.next(0, g));
            CHECK.due("its node", g % 3 == 2 ? 0 : -1, x.height(4 * g, g, 0));
        }
        CHECK.bounds("no goal 6", () -> x.next(0, 6));
        CHECK.bounds("no goal -1", () -> x.next(0, -1));
    }

    private static void goalsStandApart() {
        ReversalMesh x = new ReversalMesh();
        x.goal(0, 0, 2);
        x.goal(1, 2, 2);
        x.goal(2, 0, 0);
        x.up(0, 1);
        x.up(1, 2);
        x.query(1, 0);
        x.step(1, 0);
        x.step(1, 0);
        for (int i = 0; i < 3; i++) {
            x.step(0, 1);
        }
        CHECK.due("1 has a height for goal 0", 1, x.height(1, 0, 3));
        CHECK.due("1 has none for goal 1", 0, x.state(1, 1, 0));
        CHECK.due("1 saw goal 2", -1, x.saw(1, 0, 2, 0));
        CHECK.state("1 saw none of 0 for goal 1", () -> x.saw(1, 0, 1, 0));
        CHECK.state("1 saw none of 2 for goal 0", () -> x.saw(1, 2, 0, 0));
        CHECK.due("1 was asking for goal 0 alone", 0, x.state(1, 1, 1));
    }

    private static void askingIsOfMode2Alone() {
        ReversalMesh x = new ReversalMesh();
        for (int mode = 0; mode <= 2; mode++) {
            x.goal(mode, 0, mode);
            x.query(1, mode);
            CHECK.due("asking, mode " + mode, mode == 2 ? 1 : 0, x.state(1, mode, 1));
        }
    }

    /** The goal's -1 is below the 0 of node 2, though 2 is the lower number. */
    private static void lowerInTheFirstField() {
        for (int mode = 0; mode <= 1; mode++) {
            ReversalMesh x = new ReversalMesh();
            x.goal(0, 20, mode);
            x.up(10, 2);
            x.up(10, 20);
            x.drain(100);
            CHECK.due("next(10, 0)", 20, x.next(10, 0));
        }
        ReversalMesh y = Meshes.line(0, 9, 1, 2);
        y.time(3);
        y.down(0, 9);
        y.step(9, 1);
        CHECK.due("1 goes to the older time of 2, not to 9", 2, y.next(1, 0));
    }

    /** Node 4 has (2, 0), node 5 has (2, -1): node 5 is lower, though 4 is the lower number. */
    private static void lowerInTheSecondField() {
        ReversalMesh x = new ReversalMesh();
        x.goal(0, 23, 1);
        StuckEdges.pair(x, 3, 4, 2);
        StuckEdges.pair(x, 1, 2, 1);
        x.up(5, 4);
        x.up(5, 1);
        x.step(4, 5);
        x.step(1, 5);
        CHECK.due("5 has a", 2, x.height(5, 0, 0));
        CHECK.due("5 has b", -1, x.height(5, 0, 1));
        x.step(5, 4);
        x.step(5, 4);
        x.down(3, 4);
        CHECK.due("next(4, 0)", 5, x.next(4, 0));
        CHECK.due("4 was not stuck", 2, x.height(4, 0, 0));

        ReversalMesh y = FiveEdges.two(3, 4);
        y.query(9, 0);
        y.up(9, 4);
        y.step(4, 9);
        y.up(9, 3);
        y.step(3, 9);
        CHECK.due("9 found a height over 4", 4, y.height(9, 0, 1));
        CHECK.due("and goes to the lower origin", 3, y.next(9, 0));
    }

    /** Node 2 has bit 1, node 5 has bit 0: node 5 is lower, though 2 is the lower number. */
    private static void lowerInTheThirdField() {
        ReversalMesh x = Meshes.line(0, 5, 2);
        x.down(0, 5);
        x.step(5, 2);
        CHECK.due("its bit", 1, x.height(2, 0, 2));
        CHECK.due("its depth", 0, x.height(2, 0, 3));
        CHECK.due("next(2, 0)", 5, x.next(2, 0));
    }

    private static void lowerInTheFourthField() {
        ReversalMesh x = Meshes.line(0, 9, 1);
        CHECK.due("depth of 9", 1, x.height(9, 0, 3));
        CHECK.due("depth of 1", 2, x.height(1, 0, 3));
        CHECK.due("next(1, 0)", 9, x.next(1, 0));
        CHECK.due("next(9, 0)", 0, x.next(9, 0));
    }

    private static void lowerInTheFifthField() {
        ReversalMesh x = new ReversalMesh();
        x.goal(0, 23, 0);
        x.up(10, 9);
        x.up(10, 11);
        x.step(11, 10);
        CHECK.due("11 is not lower than 10", -1, x.next(10, 0));
        x.step(9, 10);
        CHECK.due("9 is", 9, x.next(10, 0));
        CHECK.due("10 was not stuck", 0, x.state(10, 0, 2));
    }

    private static void lowerByWhatWasSeen() {
        ReversalMesh x = Meshes.line(0, 1, 2);
        x.time(1);
        x.down(0, 1);
        CHECK.due("1 is higher now", 2, x.height(1, 0, 0));
        CHECK.due("but 2 did not see that", 1, x.next(2, 0));
        CHECK.due("and did not yield", 0, x.height(2, 0, 0));
    }

    private static void aMessageIsOfOneGoal() {
        ReversalMesh x = new ReversalMesh();
        x.goal(3, 0, 2);
        x.goal(4, 0, 2);
        x.up(1, 2);
        x.query(1, 4);
        CHECK.due("ASK", 12, x.step(1, 2));
        CHECK.due("2 asks for goal 4", 1, x.state(2, 4, 1));
        CHECK.due("not for goal 3", 0, x.state(2, 3, 1));
        x.up(0, 2);
        CHECK.due("HEIGHT of goal 3", 10, x.step(0, 2));
        CHECK.due("2 has none for goal 3", 0, x.state(2, 3, 0));
        CHECK.due("HEIGHT of goal 4", 13, x.step(0, 2));
        CHECK.due("2 has one for goal 4", 1, x.state(2, 4, 0));
    }

    private static void aHeightIsTheOneOfItsSending() {
        ReversalMesh x = new ReversalMesh();
        x.goal(0, 23, 0);
        x.up(1, 2);
        x.step(2, 1);
        CHECK.due("1 was raised", 1, x.height(1, 0, 0));
        x.step(1, 2);
        CHECK.due("2 saw the height of the sending", 0, x.saw(2, 1, 0, 0));
        x.step(1, 2);
        CHECK.due("then the one that 1 has", 1, x.saw(2, 1, 0, 0));
        ReversalMesh y = Meshes.line(0, 1);
        y.up(1, 2);
        y.down(0, 1);
        y.step(1, 2);
        CHECK.due("2 saw depth 1 of the goal's level", 1, y.saw(2, 1, 0, 3));
        y.step(1, 2);
        CHECK.due("then depth 0 of the new level", 0, y.saw(2, 1, 0, 3));
    }

    /** Node 9 loses the goal: it tells its new height to each neighbour that is left. */
    private static void tellsNeighbours(int many) {
        ReversalMesh x = Meshes.line(0, 9);
        for (int other = 1; other <= many; other++) {
            x.up(9, other);
        }
        x.drain(100);
        x.down(0, 9);
        CHECK.due("a HEIGHT for each neighbour", many, x.count(1));
        for (int other = 1; other <= many; other++) {
            CHECK.due("step(9, " + other + ")", 1, x.step(9, other));
            CHECK.due("what it saw", 9, x.saw(other, 9, 0, 1));
        }
    }

    private static void goalsByTheirNumbersOverANewLink() {
        ReversalMesh x = new ReversalMesh();
        for (int g : new int[] {4, 2, 5, 0, 3, 1}) {
            x.goal(g, 0, g % 3);
        }
        x.query(1, 5);
        x.up(0, 1);
        for (int g = 0; g <= 5; g++) {
            CHECK.due("step(0, 1)", 3 * g + 1, x.step(0, 1));
        }
        for (int code : new int[] {1, 4, 10, 13, 15}) {
            CHECK.due("step(1, 0)", code, x.step(1, 0));
        }
    }

    private static void goalsByTheirNumbersAfterALostOne() {
        ReversalMesh x = new ReversalMesh();
        for (int g : new int[] {3, 5, 0}) {
            x.goal(g, 0, g == 3 ? 2 : g == 5 ? 1 : 0);
        }
        x.up(0, 1);
        x.up(1, 2);
        x.query(2, 3);
        x.drain(100);
        x.down(1, 0);
        for (int g : new int[] {0, 3, 5}) {
            CHECK.due("step(1, 2)", 3 * g + 1, x.step(1, 2));
        }
        CHECK.state("no more", () -> x.step(1, 2));
    }

    private static void linkAppearsBetweenHeights() {
        for (int mode = 0; mode <= 2; mode++) {
            ReversalMesh x = new ReversalMesh();
            x.goal(0, 0, mode);
            x.up(0, 1);
            x.up(0, 2);
            x.query(1, 0);
            x.query(2, 0);
            x.drain(100);
            CHECK.due("up(1, 2)", 3, x.up(1, 2));
            CHECK.due("each sends its height", 2, x.count(1));
            CHECK.due("step(1, 2)", 1, x.step(1, 2));
            CHECK.due("step(2, 1)", 1, x.step(2, 1));
            CHECK.due("what 2 saw", 1, x.saw(2, 1, 0, 4));
            CHECK.due("what 1 saw", 2, x.saw(1, 2, 0, 4));
        }
    }

    private static void linkAppearsBesideOneWithout() {
        ReversalMesh x = new ReversalMesh();
        x.goal(0, 0, 2);
        x.up(1, 2);
        CHECK.due("neither has a height, nor asks", 0, x.count(1));
        x.up(0, 1);
        CHECK.due("the goal sends its height, told first", 1, x.count(1));
        x.up(2, 0);
        CHECK.due("the goal sends its height, told second", 2, x.count(1));
        CHECK.due("step(0, 1)", 1, x.step(0, 1));
        CHECK.due("step(0, 2)", 1, x.step(0, 2));
    }

    private static void linkAppearsBesideAskers() {
        ReversalMesh x = new ReversalMesh();
        x.goal(0, 0, 2);
        x.query(1, 0);
        x.query(2, 0);
        x.up(1, 2);
        CHECK.due("both ask", 2, x.count(1));
        CHECK.due("step(1, 2)", 0, x.step(1, 2));
        CHECK.due("step(2, 1)", 0, x.step(2, 1));
        x.up(3, 2);
        CHECK.due("one asks, told second", 1, x.count(1));
        CHECK.due("step(2, 3)", 0, x.step(2, 3));
        CHECK.due("step(3, 2)", 0, x.step(3, 2));
        x.up(1, 0);
        CHECK.due("a HEIGHT and an ASK", 2, x.count(1));
        CHECK.due("step(1, 0)", 0, x.step(1, 0));
        CHECK.due("step(0, 1)", 1, x.step(0, 1));
    }

    private static void linkVanishesWithItsMessages() {
        for (int mode = 0; mode <= 2; mode++) {
            ReversalMesh x = new ReversalMesh();
            x.goal(0, 0, mode);
            x.query(1, 0);
            x.up(0, 1);
            CHECK.due("down(0, 1)", 2, x.down(0, 1));
            CHECK.due("none waits", 0, x.count(1));
            CHECK.due("drain(10)", 0, x.drain(10));
            CHECK.due("nothing came", -1, x.next(1, 0));
            x.up(0, 1);
            CHECK.due("only new ones wait", 2, x.count(1));
        }
    }

    /** What is lost does not stand in the way of what waits on other links. */
    private static void linkVanishesBesideOthers() {
        ReversalMesh x = new ReversalMesh();
        x.goal(0, 0, 2);
        for (int node = 1; node <= 5; node++) {
            x.query(node, 0);
        }
        x.up(1, 2);
        x.up(1, 3);
        x.up(4, 5);
        CHECK.due("down(1, 2)", 2, x.down(1, 2));
        CHECK.due("drain(1)", 1, x.drain(1));
        CHECK.state("1 to 3 was delivered", () -> x.step(1, 3));
        CHECK.due("down(1, 3)", 1, x.down(1, 3));
        CHECK.due("drain(10)", 2, x.drain(10));
        CHECK.due("none waits", 0, x.count(1));
        CHECK.due("links", 1, x.count(0));
    }

    /** Nodes 1 and 2 have the goal on different sides; both lose each other, whichever is told first. */
    private static void linkVanishesForBoth() {
        for (int first = 1; first <= 2; first++) {
            ReversalMesh x = Meshes.line(0, 1);
            x.up(1, 2);
            x.up(2, 3);
            x.up(1, 4);
            x.query(3, 0);
            x.drain(100);
            x.down(0, 1);
            x.step(1, 2);
            CHECK.due("2 went below 1, since it saw 3", -1, x.height(2, 0, 3));
            x.time(4);
            x.down(first, 3 - first);
            CHECK.state("1 saw none of 2", () -> x.saw(1, 2, 0, 0));
            CHECK.state("2 saw none of 1", () -> x.saw(2, 1, 0, 0));
            CHECK.due("1 begins a level", 5, x.height(1, 0, 0));
            CHECK.due("2 has 3 below itself", 3, x.next(2, 0));
        }
    }

    private static void packetsGoToTheLowest() {
        ReversalMesh x = new ReversalMesh();
        x.goal(0, 23, 0);
        for (int other : new int[] {7, 3, 5}) {
            x.up(10, other);
            x.step(other, 10);
        }
        CHECK.due("send", 0, x.send(10, 0, 1));
        CHECK.due("of three lower ones the lowest", 3, x.move(0));
        x.down(10, 3);
        CHECK.due("send", 1, x.send(10, 0, 1));
        CHECK.due("of two", 5, x.move(1));
    }

    private static void packetsCarryAnyWord() {
        ReversalMesh x = new ReversalMesh();
        x.goal(0, 0, 0);
        x.up(0, 1);
        x.drain(2);
        int[] words = {0, -1, 1, Integer.MIN_VALUE, Integer.MAX_VALUE};
        for (int i = 0; i < words.length; i++) {
            CHECK.due("send", i, x.send(1, 0, words[i]));
            CHECK.due("move", 0, x.move(i));
            CHECK.due("got", words[i], x.got(0, i));
        }
    }

    private static void packetsAreDeliveredAtTheirGoalAlone() {
        ReversalMesh x = new ReversalMesh();
        x.goal(0, 0, 0);
        x.goal(1, 1, 0);
        x.up(0, 1);
        x.up(1, 2);
        x.drain(100);
        x.send(2, 0, 9);
        CHECK.due("move to the node of goal 1", 1, x.move(0));
        CHECK.due("not delivered", 0, x.packet(0, 3));
        CHECK.bounds("goal 1 got none", () -> x.got(1, 0));
        CHECK.due("move to the node of goal 0", 0, x.move(0));
        CHECK.due("delivered", 1, x.packet(0, 3));
        CHECK.due("its word", 9, x.got(0, 0));
    }

    private static void firstOfSeveralExceptionsForGoals() {
        ReversalMesh x = Meshes.busy();
        CHECK.bounds("no goal, no node, no mode", Check.act(() -> x.goal(6, 24, 3)));
        CHECK.bounds("no goal, no mode", Check.act(() -> x.goal(-1, 0, 3)));
        CHECK.bounds("no node, no mode", Check.act(() -> x.goal(2, 24, -1)));
        CHECK.bounds("no node, made already", Check.act(() -> x.goal(0, -1, 0)));
        CHECK.bounds("no node, no mode, made already", Check.act(() -> x.goal(0, 24, 3)));
        CHECK.argument("no mode, made already", Check.act(() -> x.goal(0, 0, 3)));
        CHECK.argument("no mode, made already", Check.act(() -> x.goal(5, 0, -1)));
    }

    private static void firstOfSeveralExceptionsForLinks() {
        ReversalMesh x = Meshes.busy();
        CHECK.bounds("up: no node, both are one", () -> x.up(24, 24));
        CHECK.bounds("up: no node, both are one", () -> x.up(-1, -1));
        CHECK.bounds("up: no node, the other has six", () -> x.up(5, 24));
        CHECK.bounds("up: no node, the other has six", () -> x.up(-1, 5));
        CHECK.argument("up: both are one, which has six", () -> x.up(5, 5));
        CHECK.bounds("down: no node, no link", () -> x.down(0, 24));
        CHECK.bounds("down: no node, no link", () -> x.down(-1, 0));
        CHECK.bounds("step: no node, no link", () -> x.step(0, 24));
        CHECK.bounds("step: no node, no link", () -> x.step(-1, 0));
    }

    private static void firstOfSeveralExceptionsForHeights() {
        ReversalMesh x = Meshes.busy();
        CHECK.bounds("height: no field, no height", () -> x.height(9, 0, 5));
        CHECK.bounds("height: no field, no height", () -> x.height(9, 0, -1));
        CHECK.bounds("saw: no field, no link", () -> x.saw(0, 9, 0, 5));
        CHECK.bounds("saw: no field, no link", () -> x.saw(9, 9, 0, -1));
        CHECK.bounds("saw: no field, saw none", () -> x.saw(5, 8, 1, 5));
        CHECK.bounds("saw: no goal, no link", () -> x.saw(0, 9, 3, 0));
        CHECK.bounds("saw: no node, no link", () -> x.saw(0, 24, 0, 0));
    }

    private static void firstOfSeveralExceptionsForPackets() {
        ReversalMesh x = Meshes.packets200();
        CHECK.bounds("send: no node, 200", () -> x.send(24, 2, 0));
        CHECK.bounds("send: no node, 200", () -> x.send(-1, 2, 0));
        CHECK.bounds("send: no goal, 200", () -> x.send(3, 6, 0));
        CHECK.bounds("send: the goal is not made, 200", () -> x.send(3, 0, 0));
        CHECK.thrown("send: 200", Edges.UNSUPPORTED, () -> x.send(3, 2, 0));
    }
}
