import java.util.ArrayDeque;
import java.util.ArrayList;
import java.util.List;
import java.util.Map;
import java.util.TreeMap;
import java.util.TreeSet;

/**
 * The document's words once more, in another form and with the whole Java library, to hold random runs of
 * ReversalMesh against. It notes which rules a run came to, so that a test can see that it came to all.
 */
final class PlainMesh {
    private record Mail(int kind, int goal, List<Integer> numbers) { }

    private static final class Node {
        List<Integer> height;
        final TreeMap<Integer, List<Integer>> saw = new TreeMap<>();
        boolean asking;
        int changes;
        int notices;
    }

    private static final class Goal {
        int number;
        int node;
        int mode;
        final Node[] nodes = new Node[24];
        final List<Integer> words = new ArrayList<>();
    }

    private static final class Packet {
        int node;
        int goal;
        int hops;
        int word;
        boolean delivered;
    }

    final Map<String, Integer> rules;
    private final List<TreeSet<Integer>> neighbours = new ArrayList<>();
    private final TreeMap<Integer, ArrayDeque<Mail>> ways = new TreeMap<>();
    private final TreeMap<Integer, Goal> goals = new TreeMap<>();
    private final List<Packet> packets = new ArrayList<>();
    private int now = 1;

    PlainMesh(Map<String, Integer> rules) {
        this.rules = rules;
        for (int node = 0; node < 24; node++) {
            neighbours.add(new TreeSet<>());
        }
    }

    private void note(String rule) {
        rules.merge(rule, 1, Integer::sum);
    }

    private static void bounds(boolean fine) {
        if (!fine) {
            throw new IndexOutOfBoundsException();
        }
    }

    private static void argument(boolean fine) {
        if (!fine) {
            throw new IllegalArgumentException();
        }
    }

    private static void state(boolean fine) {
        if (!fine) {
            throw new IllegalStateException();
        }
    }

    private static boolean node(int node) {
        return 0 <= node && node <= 23;
    }

    private static int order(List<Integer> a, List<Integer> b, int many) {
        for (int i = 0; i < many; i++) {
            if (!a.get(i).equals(b.get(i))) {
                return a.get(i).compareTo(b.get(i));
            }
        }
        return 0;
    }

    void goal(int g, int node, int mode) {
        bounds(0 <= g && g <= 5 && node(node));
        argument(0 <= mode && mode <= 2);
        state(!goals.containsKey(g));
        Goal goal = new Goal();
        goal.number = g;
        goal.node = node;
        goal.mode = mode;
        goals.put(g, goal);
        for (int i = 0; i < 24; i++) {
            goal.nodes[i] = new Node();
            if (mode < 2) {
                goal.nodes[i].height = List.of(i == node ? -1 : 0, 0, 0, 0, i);
            }
        }
        if (mode == 2) {
            goal.nodes[node].height = List.of(0, 0, 0, 0, node);
            return;
        }
        for (int i = 0; i < 24; i++) {
            tell(goal, i);
        }
    }

    private void post(Goal goal, int from, int to, int kind, List<Integer> numbers) {
        ArrayDeque<Mail> way = ways.get(from * 24 + to);
        if (way.size() == 64) {
            note("a full way");
            return;
        }
        way.add(new Mail(kind, goal.number, numbers));
    }

    private void tell(Goal goal, int node) {
        for (int other : neighbours.get(node)) {
            post(goal, node, other, 1, goal.nodes[node].height);
        }
    }

    int up(int a, int b) {
        bounds(node(a) && node(b));
        argument(a != b);
        state(!neighbours.get(a).contains(b));
        state(neighbours.get(a).size() < 6 && neighbours.get(b).size() < 6);
        neighbours.get(a).add(b);
        neighbours.get(b).add(a);
        ways.put(a * 24 + b, new ArrayDeque<>());
        ways.put(b * 24 + a, new ArrayDeque<>());
        for (Goal goal : goals.values()) {
            appears(goal, a, b);
            appears(goal, b, a);
        }
        return ways.size() / 2;
    }

    private void appears(Goal goal, int node, int other) {
        Node me = goal.nodes[node];
        if (me.height != null) {
            post(goal, node, other, 1, me.height);
        } else if (me.asking) {
            note("an ASK over a new link");
            post(goal, node, other, 0, List.of());
        }
    }

    int down(int a, int b) {
        bounds(node(a) && node(b));
        state(neighbours.get(a).contains(b));
        int lost = ways.remove(a * 24 + b).size() + ways.remove(b * 24 + a).size();
        neighbours.get(a).remove(b);
        neighbours.get(b).remove(a);
        for (Goal goal : goals.values()) {
            lostLink(goal, a, b);
            lostLink(goal, b, a);
        }
        return lost;
    }

    private void lostLink(Goal goal, int node, int other) {
        Node me = goal.nodes[node];
        me.saw.remove(other);
        if (goal.mode < 2) {
            askWhetherStuck(goal, node);
        } else if (me.height != null && node != goal.node && next(node, goal.number) == -1) {
            if (neighbours.get(node).isEmpty()) {
                note("the last link lost");
                lose(goal, node);
            } else {
                note("a link lost");
                give(goal, node, now, node, 0, 0);
            }
        }
    }

    private void lose(Goal goal, int node) {
        goal.nodes[node].height = null;
        goal.nodes[node].changes++;
    }

    private void give(Goal goal, int node, int f0, int f1, int f2, int f3) {
        goal.nodes[node].height = List.of(f0, f1, f2, f3, node);
        goal.nodes[node].changes++;
        tell(goal, node);
    }

    private void askWhetherStuck(Goal goal, int node) {
        Node me = goal.nodes[node];
        TreeSet<Integer> near = neighbours.get(node);
        if (node == goal.node || near.isEmpty() || !me.saw.keySet().containsAll(near)) {
            return;
        }
        if (me.saw.values().stream().anyMatch(h -> order(h, me.height, 5) < 0)) {
            return;
        }
        if (goal.mode == 0) {
            note("FULL");
            give(goal, node, 1 + me.saw.values().stream().mapToInt(h -> h.get(0)).max().getAsInt(), 0, 0, 0);
            return;
        }
        int a = 1 + me.saw.values().stream().mapToInt(h -> h.get(0)).min().getAsInt();
        var least = me.saw.values().stream().filter(h -> h.get(0) == a).mapToInt(h -> h.get(1)).min();
        note(least.isPresent() ? "PARTIAL with b" : "PARTIAL");
        give(goal, node, a, least.isPresent() ? least.getAsInt() - 1 : me.height.get(1), 0, 0);
    }

    int time(int n) {
        argument(1 <= n && n <= 1000);
        now += n;
        return now;
    }

    int step(int a, int b) {
        bounds(node(a) && node(b));
        state(neighbours.get(a).contains(b));
        Mail mail = ways.get(a * 24 + b).poll();
        state(mail != null);
        Goal goal = goals.get(mail.goal());
        if (goal.mode < 2) {
            goal.nodes[b].saw.put(a, mail.numbers());
            askWhetherStuck(goal, b);
        } else if (mail.kind() == 0) {
            askDelivered(goal, b, a);
        } else if (mail.kind() == 1) {
            heightDelivered(goal, b, a, mail.numbers());
        } else {
            clearDelivered(goal, b, mail.numbers().get(0), mail.numbers().get(1));
        }
        return mail.kind() + 3 * mail.goal();
    }

    private void askDelivered(Goal goal, int node, int sender) {
        Node me = goal.nodes[node];
        if (me.height != null) {
            post(goal, node, sender, 1, me.height);
        } else if (!me.saw.isEmpty()) {
            note(me.asking ? "an ASK lets an asking one find" : "an ASK lets find");
            find(goal, node);
        } else if (!me.asking) {
            ask(goal, node);
        }
    }

    private void ask(Goal goal, int node) {
        goal.nodes[node].asking = true;
        for (int other : neighbours.get(node)) {
            post(goal, node, other, 0, List.of());
        }
    }

    private void find(Goal goal, int node) {
        Node me = goal.nodes[node];
        List<Integer> low = me.saw.values().stream().min((p, q) -> order(p, q, 5)).get();
        me.asking = false;
        give(goal, node, low.get(0), low.get(1), low.get(2), low.get(3) + 1);
    }

    private void heightDelivered(Goal goal, int node, int sender, List<Integer> height) {
        Node me = goal.nodes[node];
        me.saw.put(sender, height);
        if (me.asking) {
            note("a HEIGHT lets find");
            find(goal, node);
        }
        yieldWithoutLower(goal, node);
    }

    private void clearDelivered(Goal goal, int node, int t, int o) {
        Node me = goal.nodes[node];
        List<Integer> level = List.of(t, o, 1);
        if (node != goal.node && me.height != null && me.height.subList(0, 3).equals(level)) {
            note(me.saw.containsKey(goal.node) ? "cleared beside the goal" : "cleared");
            dropAll(goal, node, t, o);
            return;
        }
        if (me.saw.values().removeIf(h -> h.subList(0, 3).equals(level))) {
            note(node == goal.node ? "a level forgotten at the goal" : "a level forgotten");
        }
        yieldWithoutLower(goal, node);
    }

    private void dropAll(Goal goal, int node, int t, int o) {
        Node me = goal.nodes[node];
        lose(goal, node);
        me.saw.keySet().removeIf(other -> other != goal.node);
        me.asking = false;
        for (int other : neighbours.get(node)) {
            post(goal, node, other, 2, List.of(t, o));
        }
    }

    private void yieldWithoutLower(Goal goal, int node) {
        Node me = goal.nodes[node];
        if (me.height == null || node == goal.node || next(node, goal.number) != -1) {
            return;
        }
        if (me.saw.isEmpty()) {
            note("yields to nothing");
            lose(goal, node);
            return;
        }
        List<Integer> great = me.saw.values().stream().max((p, q) -> order(p, q, 3)).get();
        int t = great.get(0);
        int o = great.get(1);
        int b = great.get(2);
        if (me.saw.values().stream().anyMatch(h -> order(h, great, 3) != 0)) {
            note("yields to the greatest level");
            int least = me.saw.values().stream().filter(h -> order(h, great, 3) == 0)
                    .mapToInt(h -> h.get(3)).min().getAsInt();
            give(goal, node, t, o, b, least - 1);
        } else if (b == 0) {
            note("reflects");
            give(goal, node, t, o, 1, 0);
        } else if (o == node) {
            note("notices");
            me.notices++;
            dropAll(goal, node, t, o);
        } else {
            note("starts a level");
            give(goal, node, now, node, 0, 0);
        }
    }

    int drain(int n) {
        argument(1 <= n && n <= 2000);
        for (int done = 0; done < n; done++) {
            int way = -1;
            for (Map.Entry<Integer, ArrayDeque<Mail>> entry : ways.entrySet()) {
                if (!entry.getValue().isEmpty()) {
                    way = entry.getKey();
                    break;
                }
            }
            if (way == -1) {
                return done;
            }
            step(way / 24, way % 24);
        }
        return n;
    }

    private Goal made(int g) {
        bounds(goals.containsKey(g));
        return goals.get(g);
    }

    boolean query(int node, int g) {
        bounds(node(node));
        Node me = made(g).nodes[node];
        if (me.height != null || me.asking) {
            return false;
        }
        ask(made(g), node);
        return true;
    }

    int next(int node, int g) {
        bounds(node(node));
        Node me = made(g).nodes[node];
        if (me.height == null) {
            return -1;
        }
        return me.saw.values().stream().filter(h -> order(h, me.height, 5) < 0)
                .min((p, q) -> order(p, q, 5)).map(h -> h.get(4)).orElse(-1);
    }

    int height(int node, int g, int field) {
        bounds(node(node));
        Node me = made(g).nodes[node];
        bounds(0 <= field && field <= 4);
        state(me.height != null);
        return me.height.get(field);
    }

    int saw(int node, int other, int g, int field) {
        bounds(node(node) && node(other));
        Node me = made(g).nodes[node];
        bounds(0 <= field && field <= 4);
        state(neighbours.get(node).contains(other) && me.saw.containsKey(other));
        return me.saw.get(other).get(field);
    }

    boolean sees(int node, int other, int g) {
        return goals.containsKey(g) && goals.get(g).nodes[node].saw.containsKey(other);
    }

    int state(int node, int g, int what) {
        bounds(node(node));
        Node me = made(g).nodes[node];
        bounds(0 <= what && what <= 3);
        return new int[] {me.height != null ? 1 : 0, me.asking ? 1 : 0, me.changes, me.notices}[what];
    }

    int send(int node, int g, int word) {
        bounds(node(node));
        Goal goal = made(g);
        if (packets.size() == 200) {
            throw new UnsupportedOperationException();
        }
        Packet packet = new Packet();
        packet.node = node;
        packet.goal = g;
        packet.word = word;
        packets.add(packet);
        arrive(packet, goal);
        return packets.size() - 1;
    }

    private void arrive(Packet packet, Goal goal) {
        if (packet.node == goal.node) {
            packet.delivered = true;
            goal.words.add(packet.word);
        }
    }

    int move(int number) {
        bounds(0 <= number && number < packets.size());
        Packet packet = packets.get(number);
        state(!packet.delivered);
        int node = next(packet.node, packet.goal);
        state(node != -1);
        packet.node = node;
        packet.hops++;
        arrive(packet, goals.get(packet.goal));
        return node;
    }

    int packet(int number, int what) {
        bounds(0 <= number && number < packets.size() && 0 <= what && what <= 3);
        Packet packet = packets.get(number);
        return new int[] {packet.node, packet.goal, packet.hops, packet.delivered ? 1 : 0}[what];
    }

    int got(int g, int k) {
        List<Integer> words = made(g).words;
        bounds(0 <= k && k < words.size());
        return words.get(k);
    }

    int count(int what) {
        switch (what) {
            case 0:
                return ways.size() / 2;
            case 1:
                return ways.values().stream().mapToInt(ArrayDeque::size).sum();
            case 2:
                return now;
            case 3:
                return packets.size();
            case 4:
                return (int) packets.stream().filter(packet -> packet.delivered).count();
            default:
                return -1;
        }
    }
}
