import java.util.ArrayList;
import java.util.List;
import java.util.function.Supplier;

/**
 * All that can be asked of a mesh, as a text. A mesh answers 512 calls, so it is made anew after every few
 * questions, and for those that change it.
 */
final class Snapshot {
    private static final int NODES = 24;
    private static final int GOALS = 6;
    private static final int PACKETS = 200;
    private static final int QUESTIONS = 100;

    private final Supplier<ReversalMesh> maker;
    private final StringBuilder text = new StringBuilder();
    private ReversalMesh mesh;
    private int asked;

    private Snapshot(Supplier<ReversalMesh> maker) {
        this.maker = maker;
        mesh = maker.get();
    }

    static String of(Supplier<ReversalMesh> maker) {
        Snapshot snapshot = new Snapshot(maker);
        snapshot.lookAtCounts();
        for (int g = 0; g < GOALS; g++) {
            snapshot.lookAtGoal(g);
        }
        snapshot.lookAtPackets();
        for (int[] link : snapshot.lookAtLinks()) {
            snapshot.lookAtWay(link[0], link[1]);
            snapshot.lookAtWay(link[1], link[0]);
        }
        return snapshot.text.toString();
    }

    private String ask(String what, Check.Call call) {
        asked++;
        if (asked % QUESTIONS == 0) {
            mesh = maker.get();
        }
        return tell(what, call);
    }

    private String tell(String what, Check.Call call) {
        String answer = Check.outcome(call);
        text.append(what).append(" -> ").append(answer).append('\n');
        return answer;
    }

    private static boolean isRefused(String answer) {
        return answer.startsWith("throws");
    }

    private void lookAtCounts() {
        for (int i = 0; i < 5; i++) {
            int what = i;
            ask("count(" + what + ")", () -> mesh.count(what));
        }
    }

    private void lookAtGoal(int g) {
        if (isRefused(ask("next(0, " + g + ")", () -> mesh.next(0, g)))) {
            return;
        }
        for (int i = 0; i < NODES; i++) {
            int node = i;
            ask("next(" + node + ", " + g + ")", () -> mesh.next(node, g));
            for (int j = 0; j < 4; j++) {
                int what = j;
                ask("state(" + node + ", " + g + ", " + what + ")", () -> mesh.state(node, g, what));
            }
            for (int j = 0; j < 5; j++) {
                int field = j;
                ask("height(" + node + ", " + g + ", " + field + ")", () -> mesh.height(node, g, field));
            }
            for (int other = 0; other < NODES; other++) {
                lookAtSight(node, other, g);
            }
        }
        boolean some = true;
        for (int i = 0; some && i <= PACKETS; i++) {
            int k = i;
            some = !isRefused(ask("got(" + g + ", " + k + ")", () -> mesh.got(g, k)));
        }
    }

    private void lookAtSight(int node, int other, int g) {
        boolean some = true;
        for (int i = 0; some && i < 5; i++) {
            int field = i;
            some = !isRefused(ask("saw(" + node + ", " + other + ", " + g + ", " + field + ")",
                    () -> mesh.saw(node, other, g, field)));
        }
    }

    private void lookAtPackets() {
        boolean some = true;
        for (int i = 0; some && i <= PACKETS; i++) {
            int packet = i;
            for (int j = 0; some && j < 4; j++) {
                int what = j;
                some = !isRefused(ask("packet(" + packet + ", " + what + ")", () -> mesh.packet(packet, what)));
            }
        }
    }

    /** Each link vanishes from a new mesh, which tells how many messages wait on it. */
    private List<int[]> lookAtLinks() {
        List<int[]> links = new ArrayList<>();
        for (int a = 0; a < NODES; a++) {
            for (int b = a; b < NODES; b++) {
                int[] link = {a, b};
                if (!isRefused(ask("down(" + a + ", " + b + ")", () -> mesh.down(link[0], link[1])))) {
                    mesh = maker.get();
                    links.add(link);
                }
            }
        }
        return links;
    }

    /** All that waits one way is delivered in a new mesh, with what is seen of it. */
    private void lookAtWay(int from, int to) {
        mesh = maker.get();
        boolean some = true;
        for (int i = 0; some && i <= 64; i++) {
            String code = tell("step(" + from + ", " + to + ")", () -> mesh.step(from, to));
            some = !isRefused(code);
            for (int j = 0; some && j < 5; j++) {
                int g = Integer.parseInt(code) / 3;
                int field = j;
                tell("saw(" + to + ", " + from + ", " + g + ", " + field + ")", () -> mesh.saw(to, from, g, field));
            }
        }
    }
}
