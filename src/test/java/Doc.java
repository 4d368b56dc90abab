import java.io.IOException;
import java.nio.file.Files;
import java.nio.file.Path;
import java.util.ArrayList;
import java.util.LinkedHashMap;
import java.util.List;
import java.util.Map;
import java.util.regex.Matcher;
import java.util.regex.Pattern;

/** The document by its headings: the tests that are named by its sentences are compared with it. */
final class Doc {
    private static final Path PLACE = Path.of("../shared/DOC.md");

    private final Map<String, String> sections = new LinkedHashMap<>();
    private final List<String> signatures = new ArrayList<>();

    static boolean isThere() {
        return Files.isReadable(PLACE);
    }

    Doc() throws IOException {
        for (String part : Files.readString(PLACE).split("(?m)^## ")) {
            int end = part.indexOf('\n');
            if (end > 0) {
                sections.put(part.substring(0, end).trim(), plain(part.substring(end)));
                keepSignature(part.substring(end).trim());
            }
        }
    }

    private void keepSignature(String text) {
        Matcher matcher = Pattern.compile("^`([^`]*)`:").matcher(text);
        if (matcher.find()) {
            signatures.add(matcher.group(1));
        }
    }

    /** The class's members as "The public face" writes them. */
    List<String> face() {
        String text = sections.getOrDefault("The public face", "");
        return List.of(text.substring(text.indexOf('{') + 1, text.lastIndexOf(';')).trim().split(";\\s*"));
    }

    /** What the promises begin with. */
    List<String> signatures() {
        return signatures;
    }

    /** Without fences, and without the signature that a promise begins with, which FaceTest is for. */
    private static String plain(String text) {
        return text.replaceAll("(?m)^```.*$", "").trim().replaceFirst("^`[^`]*`:", "").replaceAll("\\s+", " ").trim();
    }

    /** The sections whose sentences all have tests. */
    List<String> promising() {
        List<String> names = new ArrayList<>();
        for (String name : sections.keySet()) {
            if (name.equals("What it is") || name.equals("Terms") || name.startsWith("Promise ")) {
                names.add(name);
            }
        }
        return names;
    }

    boolean says(String section, String sentence) {
        return sections.getOrDefault(section, "").contains(sentence);
    }

    /** What a section says beside some of its sentences. */
    String beside(String section, List<String> sentences) {
        StringBuilder left = new StringBuilder(sections.getOrDefault(section, ""));
        for (String sentence : sentences) {
            int at = left.indexOf(sentence);
            for (int i = at; at >= 0 && i < at + sentence.length(); i++) {
                left.setCharAt(i, '\n');
            }
        }
        return left.toString().replaceAll("\\s+", " ").trim();
    }
}
