import java.io.IOException;
import java.lang.reflect.Constructor;
import java.lang.reflect.Field;
import java.lang.reflect.Method;
import java.lang.reflect.Modifier;
import java.nio.file.Files;
import java.nio.file.Path;
import java.util.ArrayList;
import java.util.List;
import java.util.TreeSet;

/** The public face: every constant, constructor and method of the document, and no other member to be seen. */
public final class FaceTest {
    private static final Check CHECK = new Check("FaceTest");
    private static final String BOUNDS = "IndexOutOfBoundsException";
    private static final String ARGUMENT = "IllegalArgumentException";
    private static final String STATE = "IllegalStateException";

    public static void main(String[] args) throws IOException {
        theClass();
        theConstants();
        theMethods();
        theClassesInside();
        if (Doc.isThere()) {
            asTheDocumentWritesIt(new Doc());
        } else {
            System.out.println("FaceTest: the document can't be read, so its words are not compared");
        }
        CHECK.end();
    }

    private static void theClass() {
        Class<?> face = ReversalMesh.class;
        CHECK.yes("public", Modifier.isPublic(face.getModifiers()));
        CHECK.yes("final", Modifier.isFinal(face.getModifiers()));
        CHECK.yes("without a package", face.getPackageName().isEmpty());
        Constructor<?>[] constructors = face.getDeclaredConstructors();
        CHECK.due("constructors", 1, constructors.length);
        CHECK.yes("public constructor", Modifier.isPublic(constructors[0].getModifiers()));
        CHECK.due("its parameters", 0, constructors[0].getParameterCount());
    }

    private static void theConstants() {
        for (Field field : ReversalMesh.class.getDeclaredFields()) {
            boolean constant = field.getName().equals("NONE");
            int seen = field.getModifiers();
            CHECK.yes(field.getName(), constant ? Modifier.isPublic(seen) : Modifier.isPrivate(seen));
            CHECK.yes(field.getName(), !Modifier.isStatic(seen) || Modifier.isFinal(seen));
        }
        CHECK.due("NONE", -1, ReversalMesh.NONE);
    }

    private static void theMethods() {
        TreeSet<String> due = new TreeSet<>(List.of(
                told("void goal", 3, BOUNDS, ARGUMENT, STATE), told("int up", 2, BOUNDS, ARGUMENT, STATE),
                told("int down", 2, BOUNDS, STATE), told("int time", 1, ARGUMENT),
                told("int step", 2, BOUNDS, STATE), told("int drain", 1, ARGUMENT),
                told("boolean query", 2, BOUNDS), told("int next", 2, BOUNDS),
                told("int height", 3, BOUNDS, STATE), told("int saw", 4, BOUNDS, STATE),
                told("int state", 3, BOUNDS), told("int send", 3, BOUNDS, "UnsupportedOperationException"),
                told("int move", 1, BOUNDS, STATE), told("int packet", 2, BOUNDS),
                told("int got", 2, BOUNDS), told("int count", 1)));
        TreeSet<String> there = new TreeSet<>();
        TreeSet<String> publicNames = new TreeSet<>();
        List<String> privateNames = new ArrayList<>();
        for (Method method : ReversalMesh.class.getDeclaredMethods()) {
            if (Modifier.isPrivate(method.getModifiers())) {
                privateNames.add(method.getName());
            } else {
                there.add(told(method));
                publicNames.add(method.getName());
            }
        }
        CHECK.yes("the methods are " + there + ", due are " + due, there.equals(due));
        for (Class<?> inside : ReversalMesh.class.getDeclaredClasses()) {
            for (Method method : inside.getDeclaredMethods()) {
                privateNames.add(method.getName());
            }
        }
        for (String name : privateNames) {
            CHECK.no("another method is named " + name, publicNames.contains(name));
        }
    }

    /** Letter by letter: what the compiler drops, such as the parameters' names, is looked at here alone. */
    private static void asTheDocumentWritesIt(Doc doc) throws IOException {
        String text = LanguageTest.code(Files.readString(Path.of("src/main/java/ReversalMesh.java")));
        String line = text.replaceAll("\\s+", " ");
        CHECK.yes("the class", line.contains("public final class ReversalMesh {"));
        CHECK.due("members that the document writes", 18, doc.face().size());
        for (String member : doc.face()) {
            CHECK.yes("the file has " + member, line.contains(member + " {") || line.contains(member + ";"));
        }
        CHECK.due("what is public, beside the class", doc.face().size(), line.split("\\bpublic\\b").length - 2);
        CHECK.due("promises", 17, doc.signatures().size());
        for (String signature : doc.signatures()) {
            CHECK.yes("a promise is for " + signature, doc.face().contains("public " + signature));
        }
    }

    private static String told(String name, int parameters, String... exceptions) {
        return name + " " + parameters + " " + List.of(exceptions);
    }

    private static String told(Method method) {
        for (Class<?> parameter : method.getParameterTypes()) {
            CHECK.yes(method.getName() + " takes int", parameter == int.class);
        }
        List<String> exceptions = new ArrayList<>();
        for (Class<?> exception : method.getExceptionTypes()) {
            exceptions.add(exception.getSimpleName());
        }
        return method.getReturnType() + " " + method.getName() + " " + method.getParameterCount() + " " + exceptions;
    }

    private static void theClassesInside() {
        Class<?>[] inside = ReversalMesh.class.getDeclaredClasses();
        CHECK.yes("at most twelve classes", inside.length < 12);
        for (Class<?> one : inside) {
            int seen = one.getModifiers();
            CHECK.yes(one.getName() + " is static", Modifier.isStatic(seen));
            CHECK.no(one.getName() + " is seen", Modifier.isPublic(seen) || Modifier.isProtected(seen));
            CHECK.yes(one.getName() + " has at most twenty fields", one.getDeclaredFields().length <= 20);
            for (Method method : one.getDeclaredMethods()) {
                CHECK.yes(method.getName() + " takes at most seven", method.getParameterCount() <= 7);
            }
        }
    }
}
