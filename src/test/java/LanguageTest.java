import java.io.IOException;
import java.nio.file.Files;
import java.nio.file.Path;
import java.util.List;
import java.util.regex.Matcher;
import java.util.regex.Pattern;

/** What a text can show of LANGUAGE.md: nothing in the class's file that its rules leave out. */
public final class LanguageTest {
    private static final Check CHECK = new Check("LanguageTest");
    private static final List<String> LEFT_OUT = List.of(
            "->", "::", "\\bimport\\b", "\\bpackage\\b", "\\bfinally\\b", "\\bsynchronized\\b", "\\bassert\\b",
            "\\bcatch\\b", "\\btry\\b", "\\bgetMessage\\b", "Exact\\b", "@", "\\bequals\\b", "\\bhashCode\\b",
            "\\btoString\\b", "\\bSystem\\b", "\\bThread\\b", "\\bRandom\\b", "\\bObject\\b", "\\bprotected\\b",
            "\\bstatic\\s*\\{", "\\binstanceof\\b", "\\bdouble\\b", "\\bfloat\\b", "\\[\\]\\s*\\[\\]");

    public static void main(String[] args) throws IOException {
        String text = code(Files.readString(Path.of("src/main/java/ReversalMesh.java")));
        for (String pattern : LEFT_OUT) {
            CHECK.no("the file has " + pattern, Pattern.compile(pattern).matcher(text).find());
        }
        throwsOnlyNamedExceptions(text);
        staticsAreConstants(text);
        callsOnlyListedLibrary(text);
        namesOnlyListedTypes(text);
        methodsStayShort(text);
        CHECK.end();
    }

    /** The file without comments and without what stands in quotes. */
    static String code(String text) {
        return text.replaceAll("(?s)/\\*.*?\\*/", "").replaceAll("//[^\n]*", "").replaceAll("\"[^\"\n]*\"", "\"\"");
    }

    private static void throwsOnlyNamedExceptions(String text) {
        Matcher matcher = Pattern.compile("\\bthrow\\b([^;]*);").matcher(text);
        while (matcher.find()) {
            CHECK.yes("throw" + matcher.group(1), matcher.group(1).matches(
                    " new (IllegalState|IllegalArgument|IndexOutOfBounds|UnsupportedOperation)Exception\\(\"\"\\)"));
        }
    }

    private static void staticsAreConstants(String text) {
        Matcher matcher = Pattern.compile("\\bstatic\\b([^;{(]*);").matcher(text);
        while (matcher.find()) {
            CHECK.yes("static" + matcher.group(1), matcher.group(1).matches(" final int [A-Z_]+ = -?[0-9]+"));
        }
    }

    private static void callsOnlyListedLibrary(String text) {
        Matcher matcher = Pattern.compile("\\b([A-Z][a-z]\\w*)\\.(\\w+)").matcher(text);
        while (matcher.find()) {
            CHECK.yes("library: " + matcher.group(),
                    List.of("Math.max", "Math.min", "Way.NUMBERS").contains(matcher.group()));
        }
    }

    private static void namesOnlyListedTypes(String text) {
        Matcher matcher = Pattern.compile("\\b[A-Z][a-z]\\w*").matcher(text);
        while (matcher.find()) {
            String name = matcher.group();
            boolean own = text.contains(" class " + name + " ");
            CHECK.yes("type: " + name, own || name.equals("Math") || name.endsWith("Exception"));
        }
    }

    /** A method begins at a line that ends with a brace at depth 1 or 2 of the file, and ends with that depth. */
    private static void methodsStayShort(String text) {
        int depth = 0;
        int begun = 0;
        int line = 0;
        for (String one : text.split("\n")) {
            line++;
            int before = depth;
            depth += one.replaceAll("[^{]", "").length() - one.replaceAll("[^}]", "").length();
            if (before <= 2 && depth > before && !one.contains("class ")) {
                begun = line;
            }
            if (begun > 0 && depth < before && depth <= 2) {
                CHECK.yes("a method of over 60 lines ends in line " + line, line - begun <= 60);
                begun = 0;
            }
        }
        CHECK.due("braces", 0, depth);
    }
}
