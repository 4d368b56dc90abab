import java.io.IOException;
import java.util.ArrayList;
import java.util.HashMap;
import java.util.LinkedHashMap;
import java.util.List;
import java.util.Map;
import java.util.function.Supplier;

/**
 * Tests that stand under the sentences of the document: each is named by its heading and by the words that it
 * holds the class to, and these words are looked for in the document itself.
 */
final class Edges {
    static final Check CHECK = new Check("EdgesTest");
    static final String BOUNDS = "IndexOutOfBoundsException";
    static final String ARGUMENT = "IllegalArgumentException";
    static final String STATE = "IllegalStateException";
    static final String UNSUPPORTED = "UnsupportedOperationException";

    interface Asked {
        long of(ReversalMesh mesh);
    }

    private static final Map<Supplier<ReversalMesh>, String> BEFORE = new HashMap<>();

    private final Map<String, List<String>> sentences = new LinkedHashMap<>();
    private String section = "";

    void at(String heading) {
        section = heading;
    }

    void test(String sentence, Check.Act first, Check.Act... others) {
        sentences.computeIfAbsent(section, key -> new ArrayList<>()).add(sentence);
        CHECK.under(section + ": \"" + sentence + "\"");
        run(first);
        for (Check.Act other : others) {
            run(other);
        }
        CHECK.under("");
    }

    private static void run(Check.Act test) {
        CHECK.same("the test", "0", Check.outcome(Check.act(test)));
    }

    /** Whether the document says each sentence where it is told to stand, and says nothing that has no test. */
    void compare() throws IOException {
        if (!Doc.isThere()) {
            System.out.println("EdgesTest: ../shared/DOC.md is not here, so the tests' names are not compared with it");
            return;
        }
        Doc doc = new Doc();
        for (Map.Entry<String, List<String>> under : sentences.entrySet()) {
            for (String sentence : under.getValue()) {
                CHECK.yes(under.getKey() + " says: " + sentence, doc.says(under.getKey(), sentence));
            }
        }
        for (String heading : doc.promising()) {
            String left = doc.beside(heading, sentences.getOrDefault(heading, List.of()));
            CHECK.yes(heading + " has a test for: " + left, left.isEmpty());
        }
    }

    /** The numbers next to a range, and those that are farthest from it. */
    static int[] beyond(int lowest, int highest) {
        return new int[] {lowest - 1, highest + 1, Integer.MIN_VALUE, Integer.MAX_VALUE};
    }

    /** The call throws just that, and leaves everything that can be asked as it was. */
    static void refused(String exception, Supplier<ReversalMesh> maker, String what, Asked asked) {
        CHECK.thrown(what, exception, () -> asked.of(maker.get()));
        unchanged(maker, what, asked);
    }

    static void unchanged(Supplier<ReversalMesh> maker, String what, Asked asked) {
        String after = Snapshot.of(() -> {
            ReversalMesh mesh = maker.get();
            Check.outcome(() -> asked.of(mesh));
            return mesh;
        });
        CHECK.same(what + " changes nothing", BEFORE.computeIfAbsent(maker, Snapshot::of), after);
    }
}
