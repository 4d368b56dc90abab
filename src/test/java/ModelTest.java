import java.util.ArrayList;
import java.util.List;
import java.util.Map;
import java.util.Random;
import java.util.TreeMap;

/**
 * Random runs, each call held against PlainMesh: answers, exact exceptions, and all state. No mesh is asked more
 * than 512 times: for more questions, the run is made again on a new one.
 */
public final class ModelTest {
    private static final int RUNS = 600;
    private static final int CALLS = 512;
    private static final int CALLS_BEFORE_LOOKING = 400;
    private static final int LOOK_AFTER = 100;
    private static final List<String> RULES = List.of(
            "FULL", "PARTIAL", "PARTIAL with b", "a HEIGHT lets find", "a full way", "a level forgotten",
            "a level forgotten at the goal", "a link lost", "an ASK lets an asking one find", "an ASK lets find",
            "an ASK over a new link", "cleared", "cleared beside the goal", "notices", "reflects",
            "starts a level", "the last link lost", "yields to nothing", "yields to the greatest level");

    private final Random random;
    private final PlainMesh plain;
    private final int nodes;
    private final int onlyMode;
    /** Runs that are looked at leave some of their calls for that. */
    private final boolean isLookedAt;
    private final List<Check.Call> run = new ArrayList<>();
    private final StringBuilder told = new StringBuilder();
    private ReversalMesh mesh = new ReversalMesh();
    private int calls;
    private boolean isLooking;

    private ModelTest(int seed, Map<String, Integer> rules) {
        random = new Random(seed);
        plain = new PlainMesh(rules);
        nodes = seed % 5 == 0 ? 24 : 3 + random.nextInt(7);
        onlyMode = seed % 3 == 0 ? random.nextInt(3) : seed % 3 == 1 ? 2 : -1;
        isLookedAt = seed % 4 != 3;
    }

    public static void main(String[] args) {
        Map<String, Integer> rules = new TreeMap<>();
        for (int seed = 0; seed < RUNS; seed++) {
            if (!new ModelTest(seed, rules).run()) {
                System.out.println("ModelTest: run " + seed + " went wrong");
                System.exit(1);
            }
        }
        System.out.println("ModelTest: " + RUNS + " runs; " + rules);
        for (String rule : RULES) {
            if (rules.getOrDefault(rule, 0) < 10) {
                System.out.println("ModelTest: the runs hardly came to: " + rule);
                System.exit(1);
            }
        }
    }

    private boolean run() {
        boolean same = true;
        int most = isLookedAt ? CALLS_BEFORE_LOOKING : CALLS;
        for (int call = 1; same && call <= most; call++) {
            same = oneCall();
            if (same && isLookedAt && call % LOOK_AFTER == 0) {
                isLooking = true;
                same = sameState();
                isLooking = false;
                runAgain();
            }
        }
        return same;
    }

    private void runAgain() {
        mesh = new ReversalMesh();
        calls = run.size();
        for (Check.Call call : run) {
            Check.outcome(call);
        }
    }

    private boolean same(String call, Check.Call ours, Check.Call due) {
        if (calls == CALLS) {
            runAgain();
        }
        calls++;
        if (!isLooking) {
            run.add(ours);
        }
        String got = Check.outcome(ours);
        String want = Check.outcome(due);
        if (told.length() < 100_000) {
            told.append(call).append(" -> ").append(want).append('\n');
        }
        if (got.equals(want)) {
            return true;
        }
        System.out.println(told);
        System.out.println("ModelTest: " + call + " gave " + got + ", due is " + want);
        return false;
    }

    /** Mostly a fine argument, now and then one at or beyond the edge. */
    private int pick(int many) {
        int dice = random.nextInt(120);
        if (dice == 0) {
            return -1;
        }
        if (dice == 1) {
            return many;
        }
        if (dice == 2) {
            return random.nextInt();
        }
        return random.nextInt(many);
    }

    private int node() {
        int dice = random.nextInt(150);
        return dice == 0 ? -1 : dice == 1 ? 24 : dice == 2 ? random.nextInt() : random.nextInt(nodes);
    }

    private boolean oneCall() {
        int dice = random.nextInt(100);
        if (dice < 16) {
            return up(node(), node());
        }
        if (dice < 24) {
            return down(node(), node());
        }
        if (dice < 28) {
            return makeGoal(pick(6), node(), onlyMode >= 0 ? onlyMode : pick(3));
        }
        if (dice < 58) {
            return step(node(), node());
        }
        if (dice < 64) {
            int n = random.nextInt(12) == 0 ? pick(2001) : 1 + random.nextInt(9);
            return same("drain(" + n + ")", () -> mesh.drain(n), () -> plain.drain(n));
        }
        if (dice < 68) {
            int n = random.nextInt(5) == 0 ? pick(1001) : 1;
            return same("time(" + n + ")", () -> mesh.time(n), () -> plain.time(n));
        }
        return dice < 82 ? query(node(), pick(6)) : packetOrLook(dice);
    }

    private boolean up(int a, int b) {
        return same("up(" + a + ", " + b + ")", () -> mesh.up(a, b), () -> plain.up(a, b));
    }

    private boolean down(int a, int b) {
        return same("down(" + a + ", " + b + ")", () -> mesh.down(a, b), () -> plain.down(a, b));
    }

    private boolean step(int a, int b) {
        return same("step(" + a + ", " + b + ")", () -> mesh.step(a, b), () -> plain.step(a, b));
    }

    private boolean makeGoal(int g, int node, int mode) {
        return same("goal(" + g + ", " + node + ", " + mode + ")",
                Check.act(() -> mesh.goal(g, node, mode)), Check.act(() -> plain.goal(g, node, mode)));
    }

    private boolean query(int node, int g) {
        return same("query(" + node + ", " + g + ")",
                () -> mesh.query(node, g) ? 1 : 0, () -> plain.query(node, g) ? 1 : 0);
    }

    private boolean packetOrLook(int dice) {
        int node = node();
        int other = node();
        int g = pick(6);
        int word = random.nextInt();
        int packet = pick(Math.max(1, plain.count(3)));
        int field = pick(5);
        int what = pick(4);
        int k = pick(8);
        switch (dice % 9) {
            case 0:
                return same("send(" + node + ", " + g + ")",
                        () -> mesh.send(node, g, word), () -> plain.send(node, g, word));
            case 1:
                return same("packet(" + packet + ", " + what + ")",
                        () -> mesh.packet(packet, what), () -> plain.packet(packet, what));
            case 2:
                return same("got(" + g + ", " + k + ")", () -> mesh.got(g, k), () -> plain.got(g, k));
            case 3:
                return same("height(" + node + ", " + g + ", " + field + ")",
                        () -> mesh.height(node, g, field), () -> plain.height(node, g, field));
            case 4:
                return same("saw(" + node + ", " + other + ", " + g + ", " + field + ")",
                        () -> mesh.saw(node, other, g, field), () -> plain.saw(node, other, g, field));
            case 5:
                return same("state(" + node + ", " + g + ", " + what + ")",
                        () -> mesh.state(node, g, what), () -> plain.state(node, g, what));
            case 6:
                return same("next(" + node + ", " + g + ")", () -> mesh.next(node, g), () -> plain.next(node, g));
            default:
                return same("move(" + packet + ")", () -> mesh.move(packet), () -> plain.move(packet));
        }
    }

    /** Every answer that changes nothing. */
    private boolean sameState() {
        boolean same = true;
        for (int what = -1; same && what < 6; what++) {
            int told = what;
            same = same("count(" + what + ")", () -> mesh.count(told), () -> plain.count(told));
        }
        for (int g = 0; same && g < 6; g++) {
            for (int node = 0; same && node < nodes; node++) {
                same = sameNode(node, g);
            }
        }
        for (int packet = 0; same && packet < plain.count(3); packet++) {
            for (int what = 0; same && what < 4; what++) {
                int number = packet;
                int told = what;
                same = same("packet(" + packet + ", " + what + ")",
                        () -> mesh.packet(number, told), () -> plain.packet(number, told));
            }
        }
        return same;
    }

    private boolean sameNode(int node, int g) {
        boolean same = same("next(" + node + ", " + g + ")", () -> mesh.next(node, g), () -> plain.next(node, g));
        for (int i = 0; same && i < 4; i++) {
            int what = i;
            same = same("state(" + node + ", " + g + ", " + i + ")",
                    () -> mesh.state(node, g, what), () -> plain.state(node, g, what));
        }
        for (int i = 0; same && i < 5; i++) {
            int field = i;
            same = same("height(" + node + ", " + g + ", " + i + ")",
                    () -> mesh.height(node, g, field), () -> plain.height(node, g, field));
        }
        for (int other = 0; same && other < nodes; other++) {
            same = sameSight(node, other, g);
        }
        return same;
    }

    private boolean sameSight(int node, int other, int g) {
        boolean same = same("saw(" + node + ", " + other + ", " + g + ", 0)",
                () -> mesh.saw(node, other, g, 0), () -> plain.saw(node, other, g, 0));
        // what was not seen has no fields: that is told once, since exceptions cost most of the time
        for (int i = 1; same && i < 5 && plain.sees(node, other, g); i++) {
            int field = i;
            same = same("saw(" + node + ", " + other + ", " + g + ", " + i + ")",
                    () -> mesh.saw(node, other, g, field), () -> plain.saw(node, other, g, field));
        }
        return same;
    }
}
