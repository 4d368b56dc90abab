import java.io.IOException;
import java.lang.reflect.Method;
import java.net.URL;
import java.net.URLClassLoader;
import java.nio.file.Files;
import java.nio.file.Path;
import java.util.ArrayList;
import java.util.List;
import java.util.regex.Matcher;
import java.util.regex.Pattern;
import javax.tools.JavaCompiler;
import javax.tools.ToolProvider;

/** Compiles and runs the example of README.md, and compares each answer with the one that its comment tells. */
public final class ReadmeTest {
    private static final Check CHECK = new Check("ReadmeTest");
    private static final Pattern LINE = Pattern.compile(
            "(?:\\w+ (\\w+) = )?(mesh\\.\\w+\\([^)]*\\));\\s*// (-?\\d+|true|false|NONE|throws \\w+)\\b.*");

    public static void main(String[] args) throws Exception {
        String readme = Files.readString(Path.of("README.md"));
        List<String> lines = example(readme);
        List<String> due = new ArrayList<>();
        List<String> asked = new ArrayList<>();
        StringBuilder body = new StringBuilder();
        for (String line : lines) {
            Matcher matcher = LINE.matcher(line);
            if (matcher.matches()) {
                due.add(matcher.group(3).replace("NONE", "-1"));
                asked.add(matcher.group(2));
                body.append(asking(line, matcher)).append('\n');
            } else {
                body.append(line).append('\n');
            }
        }
        CHECK.yes("the example tells answers", due.size() > 10);
        compare(asked, due, run(body.toString()));
        everyCallIsTold(readme);
        CHECK.end();
    }

    /** The lines of the first piece of Java under "Use". */
    private static List<String> example(String readme) {
        Matcher matcher = Pattern.compile("(?s)\n## Use\n.*?```java\n(.*?)```").matcher(readme);
        CHECK.yes("there is an example", matcher.find());
        return List.of(matcher.group(1).split("\n"));
    }

    /** A line of the example, with what keeps its answer. */
    private static String asking(String line, Matcher matcher) {
        String call = matcher.group(2);
        if (matcher.group(1) != null) {
            return line + "\nanswers.add(String.valueOf(" + matcher.group(1) + "));";
        }
        if (matcher.group(3).startsWith("throws")) {
            return "try { " + call + "; answers.add(\"nothing thrown\"); } catch (RuntimeException e) {"
                    + " answers.add(\"throws \" + e.getClass().getSimpleName()); }";
        }
        return "answers.add(String.valueOf(" + call + "));";
    }

    private static List<?> run(String body) throws Exception {
        Path place = Files.createTempDirectory("readme");
        Path file = place.resolve("Example.java");
        Files.writeString(file, "import java.util.*; public class Example { public static List<String> answers() {\n"
                + "List<String> answers = new ArrayList<>();\n" + body + "return answers; } }\n");
        try {
            return answers(place, file);
        } finally {
            Files.deleteIfExists(place.resolve("Example.class"));
            Files.delete(file);
            Files.delete(place);
        }
    }

    private static List<?> answers(Path place, Path file) throws Exception {
        JavaCompiler javac = ToolProvider.getSystemJavaCompiler();
        int failed = javac.run(null, null, null, "-cp", System.getProperty("java.class.path"),
                "-d", place.toString(), file.toString());
        CHECK.due("compiling the example", 0, failed);
        if (failed != 0) {
            return List.of();
        }
        try (URLClassLoader loader = new URLClassLoader(new URL[] {place.toUri().toURL()})) {
            Method answers = loader.loadClass("Example").getMethod("answers");
            return (List<?>) answers.invoke(null);
        }
    }

    private static void compare(List<String> asked, List<String> due, List<?> got) {
        CHECK.due("answers", due.size(), got.size());
        for (int i = 0; i < got.size(); i++) {
            CHECK.same("README.md's " + asked.get(i), due.get(i), String.valueOf(got.get(i)));
        }
    }

    private static void everyCallIsTold(String readme) throws IOException {
        for (Method method : ReversalMesh.class.getMethods()) {
            if (method.getDeclaringClass() == ReversalMesh.class) {
                CHECK.yes("README.md tells of " + method.getName(), readme.contains("`" + method.getName() + "("));
            }
        }
    }
}
