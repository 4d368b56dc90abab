/**
 * A mesh of radios that drift in and out of reach. For each goal every node keeps a height, and what it
 * sends flows down; a node without a lower neighbour raises itself by the rule of the goal's mode.
 */
public final class ReversalMesh {
    public static final int NONE = -1;

    private static final int NODES = 24;
    private static final int GOALS = 6;
    private static final int MOST_NEIGHBOURS = 6;
    private static final int MOST_WAITING = 64;
    private static final int MOST_PACKETS = 200;
    private static final int MOST_TIME = 1000;
    private static final int MOST_DRAINED = 2000;

    private static final int FULL = 0;
    private static final int PARTIAL = 1;
    private static final int FIVE = 2;

    private static final int ASK = 0;
    private static final int HEIGHT = 1;
    private static final int CLEAR = 2;
    private static final int KINDS = 3;

    private static final int FIELDS = 5;
    private static final int LEVEL_FIELDS = 3;
    private static final int DEPTH = 3;

    private final Net net;
    private final Goal[] goals;
    private final Packets packets;

    public ReversalMesh() {
        net = new Net();
        goals = new Goal[GOALS];
        packets = new Packets();
    }

    public void goal(int g, int node, int mode)
            throws IndexOutOfBoundsException, IllegalArgumentException, IllegalStateException {
        if (g < 0 || g >= GOALS) {
            throw new IndexOutOfBoundsException("no such goal");
        }
        requireNode(node);
        if (mode < FULL || mode > FIVE) {
            throw new IllegalArgumentException("no such mode");
        }
        if (goals[g] != null) {
            throw new IllegalStateException("the goal was made already");
        }
        Goal made = goalOfMode(g, node, mode);
        goals[g] = made;
        made.start();
    }

    public int up(int a, int b)
            throws IndexOutOfBoundsException, IllegalArgumentException, IllegalStateException {
        requireNode(a);
        requireNode(b);
        if (a == b) {
            throw new IllegalArgumentException("a link needs two nodes");
        }
        if (net.linked(a, b)) {
            throw new IllegalStateException("the link is there");
        }
        if (net.full(a) || net.full(b)) {
            throw new IllegalStateException("a node has six neighbours");
        }
        net.join(a, b);
        for (int g = 0; g < GOALS; g++) {
            Goal goal = goals[g];
            if (goal != null) {
                goal.greet(a, b);
                goal.greet(b, a);
            }
        }
        return net.links;
    }

    public int down(int a, int b) throws IndexOutOfBoundsException, IllegalStateException {
        requireNode(a);
        requireNode(b);
        if (!net.linked(a, b)) {
            throw new IllegalStateException("no such link");
        }
        int lost = net.part(a, b);
        for (int g = 0; g < GOALS; g++) {
            Goal goal = goals[g];
            if (goal != null) {
                goal.lostLink(a, b);
                goal.lostLink(b, a);
            }
        }
        return lost;
    }

    public int time(int n) throws IllegalArgumentException {
        if (n < 1 || n > MOST_TIME) {
            throw new IllegalArgumentException("not 1 to 1000");
        }
        net.now += n;
        return net.now;
    }

    public int step(int a, int b) throws IndexOutOfBoundsException, IllegalStateException {
        requireNode(a);
        requireNode(b);
        int code = deliver(a, b);
        if (code == NONE) {
            throw new IllegalStateException("no such link, or nothing waits");
        }
        return code;
    }

    public int drain(int n) throws IllegalArgumentException {
        if (n < 1 || n > MOST_DRAINED) {
            throw new IllegalArgumentException("not 1 to 2000");
        }
        int delivered = 0;
        while (delivered < n && net.waiting > 0) {
            int from = net.firstSender();
            deliver(from, net.firstReceiver(from));
            delivered++;
        }
        return delivered;
    }

    public boolean query(int node, int g) throws IndexOutOfBoundsException {
        requireNode(node);
        return madeGoal(g).wantWay(node);
    }

    public int next(int node, int g) throws IndexOutOfBoundsException {
        requireNode(node);
        return madeGoal(g).nextOf(node);
    }

    public int height(int node, int g, int field) throws IndexOutOfBoundsException, IllegalStateException {
        requireNode(node);
        Goal goal = madeGoal(g);
        requireField(field);
        if (!goal.hasHeight(node)) {
            throw new IllegalStateException("the node has no height");
        }
        return goal.field(node, node, field);
    }

    public int saw(int node, int other, int g, int field)
            throws IndexOutOfBoundsException, IllegalStateException {
        requireNode(node);
        requireNode(other);
        Goal goal = madeGoal(g);
        requireField(field);
        if (!net.linked(node, other) || !goal.knows(node, other)) {
            throw new IllegalStateException("no link, or no height was seen");
        }
        return goal.field(node, other, field);
    }

    public int state(int node, int g, int what) throws IndexOutOfBoundsException {
        requireNode(node);
        Goal goal = madeGoal(g);
        switch (what) {
            case 0:
                return goal.hasHeight(node) ? 1 : 0;
            case 1:
                return goal.asking[node] ? 1 : 0;
            case 2:
                return goal.changes[node];
            case 3:
                return goal.notices[node];
            default:
                throw new IndexOutOfBoundsException("no such what");
        }
    }

    public int send(int node, int g, int word) throws IndexOutOfBoundsException, UnsupportedOperationException {
        requireNode(node);
        Goal goal = madeGoal(g);
        int packet = packets.add(node, g, word);
        if (packet == NONE) {
            throw new UnsupportedOperationException("there are 200 packets");
        }
        deliverAtHome(packet, goal);
        return packet;
    }

    public int move(int packet) throws IndexOutOfBoundsException, IllegalStateException {
        requirePacket(packet);
        Goal goal = madeGoal(packets.goal[packet]);
        if (packets.delivered[packet]) {
            throw new IllegalStateException("the packet is delivered");
        }
        int node = goal.nextOf(packets.node[packet]);
        if (node == NONE) {
            throw new IllegalStateException("there is no next node");
        }
        packets.node[packet] = node;
        packets.hops[packet]++;
        deliverAtHome(packet, goal);
        return node;
    }

    public int packet(int packet, int what) throws IndexOutOfBoundsException {
        requirePacket(packet);
        switch (what) {
            case 0:
                return packets.node[packet];
            case 1:
                return packets.goal[packet];
            case 2:
                return packets.hops[packet];
            case 3:
                return packets.delivered[packet] ? 1 : 0;
            default:
                throw new IndexOutOfBoundsException("no such what");
        }
    }

    public int got(int g, int k) throws IndexOutOfBoundsException {
        Goal goal = madeGoal(g);
        if (k < 0 || k >= goal.arrived) {
            throw new IndexOutOfBoundsException("no such word");
        }
        return goal.words[k];
    }

    public int count(int what) {
        switch (what) {
            case 0:
                return net.links;
            case 1:
                return net.waiting;
            case 2:
                return net.now;
            case 3:
                return packets.made;
            case 4:
                return packets.arrived;
            default:
                return NONE;
        }
    }

    private static void requireNode(int node) {
        if (node < 0 || node >= NODES) {
            throw new IndexOutOfBoundsException("no such node");
        }
    }

    private static void requireField(int field) {
        if (field < 0 || field >= FIELDS) {
            throw new IndexOutOfBoundsException("no such field");
        }
    }

    private void requirePacket(int packet) {
        if (packet < 0 || packet >= packets.made) {
            throw new IndexOutOfBoundsException("no such packet");
        }
    }

    /** The goal of a number; null, when none was made by it. */
    private Goal goalOrNull(int g) {
        return g < 0 || g >= GOALS ? null : goals[g];
    }

    private Goal madeGoal(int g) {
        Goal goal = goalOrNull(g);
        if (goal == null) {
            throw new IndexOutOfBoundsException("the goal was not made");
        }
        return goal;
    }

    private Goal goalOfMode(int g, int node, int mode) {
        if (mode == FULL) {
            return new FullGoal(net, g, node);
        }
        if (mode == PARTIAL) {
            return new PartialGoal(net, g, node);
        }
        return new FiveGoal(net, g, node);
    }

    /** Delivers the oldest message of one way, and answers its code; NONE, when nothing waits there. */
    private int deliver(int from, int to) {
        Message message = net.take(from, to);
        if (message == null) {
            return NONE;
        }
        Goal goal = goalOrNull(message.goal);
        if (goal != null) {
            goal.receive(to, from, message);
        }
        return message.kind + KINDS * message.goal;
    }

    private void deliverAtHome(int packet, Goal goal) {
        if (packets.node[packet] == goal.home && goal.arrived < MOST_PACKETS) {
            packets.delivered[packet] = true;
            packets.arrived++;
            goal.words[goal.arrived] = packets.word[packet];
            goal.arrived++;
        }
    }

    /** A message that was taken off its way; one object serves all, since one is in hand at a time. */
    private static final class Message {
        int kind;
        int goal;
        int first;
        int second;
        int third;
        int fourth;
    }

    /** The messages that wait from one node to another, in a ring. */
    private static final class Way {
        /** A message's code and the four numbers of its height; the height's last field is the sender. */
        static final int NUMBERS = 5;

        final int[] ring = new int[MOST_WAITING * NUMBERS];
        int oldest;
        int waiting;
    }

    /** The links, what waits on them, and now. */
    private static final class Net {
        final int[] degree = new int[NODES];
        /** Six places a node, its neighbours in the order of their numbers. */
        final int[] neighbours = new int[NODES * MOST_NEIGHBOURS];
        final Way[] ways = new Way[NODES * NODES];
        /** Ways of links that vanished: kept, so that links that come and go make nothing new. */
        final Way[] spare = new Way[NODES * MOST_NEIGHBOURS];
        final int[] waitingFrom = new int[NODES];
        final Message inHand = new Message();
        int spares;
        int links;
        int waiting;
        int now = 1;

        boolean linked(int a, int b) {
            return ways[a * NODES + b] != null;
        }

        boolean full(int node) {
            return degree[node] >= MOST_NEIGHBOURS;
        }

        int neighbour(int node, int place) {
            return neighbours[node * MOST_NEIGHBOURS + place];
        }

        void join(int a, int b) {
            addNeighbour(a, b);
            addNeighbour(b, a);
            ways[a * NODES + b] = emptyWay();
            ways[b * NODES + a] = emptyWay();
            links++;
        }

        /** Answers how many messages were lost. */
        int part(int a, int b) {
            removeNeighbour(a, b);
            removeNeighbour(b, a);
            links--;
            return closeWay(a, b) + closeWay(b, a);
        }

        private void addNeighbour(int node, int other) {
            if (full(node)) {
                return;
            }
            int base = node * MOST_NEIGHBOURS;
            int place = degree[node];
            while (place > 0 && neighbours[base + place - 1] > other) {
                neighbours[base + place] = neighbours[base + place - 1];
                place--;
            }
            neighbours[base + place] = other;
            degree[node]++;
        }

        private void removeNeighbour(int node, int other) {
            int base = node * MOST_NEIGHBOURS;
            int kept = 0;
            for (int place = 0; place < degree[node]; place++) {
                int neighbour = neighbours[base + place];
                if (neighbour != other) {
                    neighbours[base + kept] = neighbour;
                    kept++;
                }
            }
            degree[node] = kept;
        }

        private Way emptyWay() {
            if (spares == 0) {
                return new Way();
            }
            spares--;
            return spare[spares];
        }

        private int closeWay(int from, int to) {
            Way way = ways[from * NODES + to];
            if (way == null) {
                return 0;
            }
            int lost = way.waiting;
            way.waiting = 0;
            waiting -= lost;
            waitingFrom[from] -= lost;
            ways[from * NODES + to] = null;
            if (spares < spare.length) {
                spare[spares] = way;
                spares++;
            }
            return lost;
        }

        void post(int from, int to, int code, int first, int second, int third, int fourth) {
            Way way = ways[from * NODES + to];
            if (way == null || way.waiting >= MOST_WAITING) {
                return;
            }
            int at = (way.oldest + way.waiting) % MOST_WAITING * Way.NUMBERS;
            way.ring[at] = code;
            way.ring[at + 1] = first;
            way.ring[at + 2] = second;
            way.ring[at + 3] = third;
            way.ring[at + 4] = fourth;
            way.waiting++;
            waiting++;
            waitingFrom[from]++;
        }

        /** Takes the oldest message of one way; null, when nothing waits there. */
        Message take(int from, int to) {
            Way way = ways[from * NODES + to];
            if (way == null || way.waiting == 0) {
                return null;
            }
            int at = way.oldest * Way.NUMBERS;
            inHand.kind = way.ring[at] % KINDS;
            inHand.goal = way.ring[at] / KINDS;
            inHand.first = way.ring[at + 1];
            inHand.second = way.ring[at + 2];
            inHand.third = way.ring[at + 3];
            inHand.fourth = way.ring[at + 4];
            way.oldest = (way.oldest + 1) % MOST_WAITING;
            way.waiting--;
            waiting--;
            waitingFrom[from]--;
            return inHand;
        }

        /** The lowest node that has sent what still waits; 0, when nothing waits. */
        int firstSender() {
            for (int node = 0; node < NODES; node++) {
                if (waitingFrom[node] > 0) {
                    return node;
                }
            }
            return 0;
        }

        /** The lowest node for which something waits from a sender; the sender, when nothing does. */
        int firstReceiver(int from) {
            for (int place = 0; place < degree[from]; place++) {
                int to = neighbour(from, place);
                Way way = ways[from * NODES + to];
                if (way != null && way.waiting > 0) {
                    return to;
                }
            }
            return from;
        }
    }

    /** A goal, with what all nodes know for it. */
    private abstract static class Goal {
        final Net net;
        final int number;
        final int home;
        /**
         * Five fields for each pair of nodes: what the first one saw of the second, and where both are one,
         * its own height. One table holds both, so that heights are compared by their places alone.
         */
        final int[] fields = new int[NODES * NODES * FIELDS];
        final boolean[] known = new boolean[NODES * NODES];
        final boolean[] asking = new boolean[NODES];
        final int[] changes = new int[NODES];
        final int[] notices = new int[NODES];
        final int[] words = new int[MOST_PACKETS];
        int arrived;

        Goal(Net net, int number, int home) {
            this.net = net;
            this.number = number;
            this.home = home;
        }

        abstract void start();

        abstract void receive(int node, int from, Message message);

        abstract void lostLink(int node, int other);

        /** Answers whether the node asked. */
        abstract boolean wantWay(int node);

        static int placeOf(int node, int other) {
            return (node * NODES + other) * FIELDS;
        }

        int codeOf(int kind) {
            return kind + KINDS * number;
        }

        boolean knows(int node, int other) {
            return known[node * NODES + other];
        }

        boolean hasHeight(int node) {
            return known[node * NODES + node];
        }

        int field(int node, int other, int field) {
            return fields[placeOf(node, other) + field];
        }

        void forget(int node, int other) {
            known[node * NODES + other] = false;
        }

        void put(int node, int other, int first, int second, int third, int fourth) {
            int place = placeOf(node, other);
            fields[place] = first;
            fields[place + 1] = second;
            fields[place + 2] = third;
            fields[place + 3] = fourth;
            fields[place + 4] = other;
            known[node * NODES + other] = true;
        }

        void see(int node, int from, Message message) {
            put(node, from, message.first, message.second, message.third, message.fourth);
        }

        void setHeight(int node, int first, int second, int third, int fourth) {
            put(node, node, first, second, third, fourth);
            changes[node]++;
        }

        /** Compares the heights at two places by their first fields: all five, or those of the level. */
        int compare(int one, int two, int many) {
            for (int field = 0; field < many; field++) {
                if (fields[one + field] != fields[two + field]) {
                    return fields[one + field] < fields[two + field] ? -1 : 1;
                }
            }
            return 0;
        }

        /** The neighbour that a node saw with the lowest height. */
        int lowestSeen(int node) {
            int lowest = NONE;
            for (int place = 0; place < net.degree[node]; place++) {
                int other = net.neighbour(node, place);
                if (knows(node, other) && (lowest == NONE
                        || compare(placeOf(node, other), placeOf(node, lowest), FIELDS) < 0)) {
                    lowest = other;
                }
            }
            return lowest;
        }

        int nextOf(int node) {
            int lowest = lowestSeen(node);
            if (lowest == NONE || !hasHeight(node)) {
                return NONE;
            }
            return compare(placeOf(node, lowest), placeOf(node, node), FIELDS) < 0 ? lowest : NONE;
        }

        void tellTo(int node, int other) {
            int own = placeOf(node, node);
            net.post(node, other, codeOf(HEIGHT), fields[own], fields[own + 1], fields[own + 2], fields[own + 3]);
        }

        void tell(int node) {
            for (int place = 0; place < net.degree[node]; place++) {
                tellTo(node, net.neighbour(node, place));
            }
        }

        /** What a node says over a link that appears. */
        void greet(int node, int other) {
            if (hasHeight(node)) {
                tellTo(node, other);
            } else if (asking[node]) {
                net.post(node, other, codeOf(ASK), 0, 0, 0, 0);
            }
        }
    }

    /** A goal for which all nodes always have heights: they raise themselves when they are stuck. */
    private abstract static class StuckGoal extends Goal {
        StuckGoal(Net net, int number, int home) {
            super(net, number, home);
        }

        /** Gives a stuck node, which has neighbours and saw them all, its new height, which it tells. */
        abstract void raise(int node);

        void start() {
            for (int node = 0; node < NODES; node++) {
                put(node, node, node == home ? -1 : 0, 0, 0, 0);
                tell(node);
            }
        }

        void receive(int node, int from, Message message) {
            see(node, from, message);
            if (isStuck(node)) {
                raise(node);
            }
        }

        void lostLink(int node, int other) {
            forget(node, other);
            if (isStuck(node)) {
                raise(node);
            }
        }

        boolean wantWay(int node) {
            return false;
        }

        private boolean isStuck(int node) {
            return node != home && net.degree[node] > 0 && sawAll(node) && nextOf(node) == NONE;
        }

        private boolean sawAll(int node) {
            for (int place = 0; place < net.degree[node]; place++) {
                if (!knows(node, net.neighbour(node, place))) {
                    return false;
                }
            }
            return true;
        }
    }

    private static final class FullGoal extends StuckGoal {
        FullGoal(Net net, int number, int home) {
            super(net, number, home);
        }

        void raise(int node) {
            int greatest = field(node, net.neighbour(node, 0), 0);
            for (int place = 1; place < net.degree[node]; place++) {
                greatest = Math.max(greatest, field(node, net.neighbour(node, place), 0));
            }
            setHeight(node, greatest + 1, 0, 0, 0);
            tell(node);
        }
    }

    private static final class PartialGoal extends StuckGoal {
        PartialGoal(Net net, int number, int home) {
            super(net, number, home);
        }

        void raise(int node) {
            int least = field(node, net.neighbour(node, 0), 0);
            for (int place = 1; place < net.degree[node]; place++) {
                least = Math.min(least, field(node, net.neighbour(node, place), 0));
            }
            setHeight(node, least + 1, secondBeside(node, least + 1), 0, 0);
            tell(node);
        }

        /** The second field that goes with a new first one: below those that were seen beside it. */
        private int secondBeside(int node, int first) {
            int lowest = NONE;
            for (int place = 0; place < net.degree[node]; place++) {
                int other = net.neighbour(node, place);
                if (field(node, other, 0) == first
                        && (lowest == NONE || field(node, other, 1) < field(node, lowest, 1))) {
                    lowest = other;
                }
            }
            return lowest == NONE ? field(node, node, 1) : field(node, lowest, 1) - 1;
        }
    }

    /** A goal for which nodes get heights by asking, and lose them when they are cut off. */
    private static final class FiveGoal extends Goal {
        FiveGoal(Net net, int number, int home) {
            super(net, number, home);
        }

        void start() {
            put(home, home, 0, 0, 0, 0);
        }

        void receive(int node, int from, Message message) {
            if (message.kind == ASK) {
                if (hasHeight(node)) {
                    tellTo(node, from);
                } else if (!find(node) && !asking[node]) {
                    askAll(node);
                }
                return;
            }
            if (message.kind == HEIGHT) {
                see(node, from, message);
                if (asking[node]) {
                    find(node);
                }
            } else if (node != home && isOfLevel(node, node, message.first, message.second)) {
                clearAll(node, message.first, message.second);
            } else {
                forgetLevel(node, message.first, message.second);
            }
            if (isTrapped(node)) {
                yieldHeight(node);
            }
        }

        void lostLink(int node, int other) {
            forget(node, other);
            if (!isTrapped(node)) {
                return;
            }
            if (net.degree[node] == 0) {
                loseHeight(node);
            } else {
                setHeight(node, net.now, node, 0, 0);
                tell(node);
            }
        }

        boolean wantWay(int node) {
            if (hasHeight(node) || asking[node]) {
                return false;
            }
            askAll(node);
            return true;
        }

        private void askAll(int node) {
            asking[node] = true;
            for (int place = 0; place < net.degree[node]; place++) {
                net.post(node, net.neighbour(node, place), codeOf(ASK), 0, 0, 0, 0);
            }
        }

        /** Answers whether the node found a height: not, when it saw none. */
        private boolean find(int node) {
            int lowest = lowestSeen(node);
            if (lowest == NONE) {
                return false;
            }
            asking[node] = false;
            setHeight(node, field(node, lowest, 0), field(node, lowest, 1), field(node, lowest, 2),
                    field(node, lowest, DEPTH) + 1);
            tell(node);
            return true;
        }

        private boolean isTrapped(int node) {
            return node != home && hasHeight(node) && nextOf(node) == NONE;
        }

        /** Whether what a node knows of another one, or of itself, is a height of the level (time, origin, 1). */
        private boolean isOfLevel(int node, int other, int time, int origin) {
            return knows(node, other) && field(node, other, 0) == time
                    && field(node, other, 1) == origin && field(node, other, 2) == 1;
        }

        private void forgetLevel(int node, int time, int origin) {
            for (int place = 0; place < net.degree[node]; place++) {
                int other = net.neighbour(node, place);
                if (isOfLevel(node, other, time, origin)) {
                    forget(node, other);
                }
            }
        }

        private void loseHeight(int node) {
            forget(node, node);
            changes[node]++;
        }

        /** A node that is cut off drops its height and what it saw, and passes that on. */
        private void clearAll(int node, int time, int origin) {
            loseHeight(node);
            asking[node] = false;
            for (int place = 0; place < net.degree[node]; place++) {
                int other = net.neighbour(node, place);
                if (other != home) {
                    forget(node, other);
                }
                net.post(node, other, codeOf(CLEAR), time, origin, 0, 0);
            }
        }

        private void yieldHeight(int node) {
            int top = topSeen(node);
            if (top == NONE) {
                loseHeight(node);
                return;
            }
            int time = field(node, top, 0);
            int origin = field(node, top, 1);
            int bit = field(node, top, 2);
            if (!sawOneLevel(node, top)) {
                setHeight(node, time, origin, bit, field(node, top, DEPTH) - 1);
            } else if (bit == 0) {
                setHeight(node, time, origin, 1, 0);
            } else if (origin == node) {
                notices[node]++;
                clearAll(node, time, origin);
                return;
            } else {
                setHeight(node, net.now, node, 0, 0);
            }
            tell(node);
        }

        /** The neighbour that a node saw with the greatest level, and of these with the least depth. */
        private int topSeen(int node) {
            int top = NONE;
            for (int place = 0; place < net.degree[node]; place++) {
                int other = net.neighbour(node, place);
                if (!knows(node, other)) {
                    continue;
                }
                int order = top == NONE ? 1 : compare(placeOf(node, other), placeOf(node, top), LEVEL_FIELDS);
                if (order > 0 || order == 0 && field(node, other, DEPTH) < field(node, top, DEPTH)) {
                    top = other;
                }
            }
            return top;
        }

        private boolean sawOneLevel(int node, int top) {
            for (int place = 0; place < net.degree[node]; place++) {
                int other = net.neighbour(node, place);
                if (knows(node, other) && compare(placeOf(node, other), placeOf(node, top), LEVEL_FIELDS) != 0) {
                    return false;
                }
            }
            return true;
        }
    }

    /** The packets, delivered or not, by their numbers. */
    private static final class Packets {
        final int[] node = new int[MOST_PACKETS];
        final int[] goal = new int[MOST_PACKETS];
        final int[] word = new int[MOST_PACKETS];
        final int[] hops = new int[MOST_PACKETS];
        final boolean[] delivered = new boolean[MOST_PACKETS];
        int made;
        int arrived;

        /** Answers the new packet's number; NONE, when there is no room for it. */
        int add(int at, int to, int text) {
            if (made >= MOST_PACKETS) {
                return NONE;
            }
            int packet = made;
            node[packet] = at;
            goal[packet] = to;
            word[packet] = text;
            made++;
            return packet;
        }
    }
}
