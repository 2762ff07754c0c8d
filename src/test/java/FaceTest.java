import java.io.IOException;
import java.lang.reflect.Constructor;
import java.lang.reflect.Field;
import java.lang.reflect.Method;
import java.lang.reflect.Modifier;
import java.nio.file.Files;
import java.nio.file.Path;
import java.util.Arrays;
import java.util.Set;
import java.util.TreeSet;
import java.util.regex.Pattern;

/** The public face, and what of LANGUAGE.md can be read off the class and its source. */
public final class FaceTest {
    private static final Check CHECK = new Check("FaceTest");
    private static final Set<String> FACE = new TreeSet<>(Arrays.asList(
            "int put(int, long)", "int remove(int)", "int keep()", "long root(int)", "int leaves(int)",
            "int want(int, int)", "int forget()", "int show(int)", "int pass()",
            "int feed(int, long)", "int cut(int)", "int spoil(int, int)",
            "int take(long)", "int place()", "int get(int)", "long value()", "int write(int, long)",
            "int erase(int)", "long view()", "int count(int, int)", "int next(int)", "int told(int)", "int octet(int)"));

    /** The calls in the document's order, each part of them behind the words that the interface says ahead of it. */
    private static final String[] ORDER = {
        "---- the tree", "put(", "remove(", "keep(", "root(", "leaves(",
        "---- what is shown", "want(", "forget(", "show(", "pass(",
        "---- the tape", "feed(", "cut(", "spoil(",
        "---- the reader", "take(", "place(", "get(", "value(", "write(", "erase(", "view(", "count(", "next(", "told(",
        "octet("};
    private static final int MOST_LINES = 60;

    public static void main(String[] args) throws IOException {
        constants();
        methods();
        fieldsAndConstructors();
        classesInside();
        String text = Files.readString(Path.of("src/main/java/PathProofs.java"));
        source(text);
        order(text);
        shortMethods(text);
        CHECK.end();
    }

    private static void constants() {
        CHECK.due("BAD", PathProofs.BAD, -1);
        CHECK.due("NONE", PathProofs.NONE, -2);
        CHECK.due("FULL", PathProofs.FULL, -3);
        CHECK.due("MISSING", PathProofs.MISSING, -4);
    }

    private static String signature(Method method) {
        StringBuilder text = new StringBuilder(method.getReturnType() + " " + method.getName() + "(");
        for (Class<?> type : method.getParameterTypes()) {
            text.append(text.charAt(text.length() - 1) == '(' ? "" : ", ").append(type);
        }
        return text.append(")").toString();
    }

    private static void methods() {
        Set<String> open = new TreeSet<>();
        Set<String> openNames = new TreeSet<>();
        for (Method method : PathProofs.class.getDeclaredMethods()) {
            if (!Modifier.isPrivate(method.getModifiers())) {
                open.add(signature(method));
                openNames.add(method.getName());
                CHECK.holds(method + " is public", Modifier.isPublic(method.getModifiers()));
                CHECK.holds(method + " is called on an object", !Modifier.isStatic(method.getModifiers()));
                CHECK.due(method + " declares no exception", method.getExceptionTypes().length, 0);
            }
        }
        CHECK.holds("the face is " + open, open.equals(FACE));
        for (Method method : PathProofs.class.getDeclaredMethods()) {
            boolean sameName = Modifier.isPrivate(method.getModifiers()) && openNames.contains(method.getName());
            CHECK.holds("no private method bears a public name: " + method, !sameName);
            CHECK.holds("seven parameters at most: " + method, method.getParameterCount() <= 7);
        }
    }

    private static void fieldsAndConstructors() {
        CHECK.holds("public and final", Modifier.isPublic(PathProofs.class.getModifiers())
                && Modifier.isFinal(PathProofs.class.getModifiers()));
        Set<String> open = new TreeSet<>();
        for (Field field : PathProofs.class.getDeclaredFields()) {
            if (!Modifier.isPrivate(field.getModifiers())) {
                open.add(field.getName());
                CHECK.holds(field + " is a public constant of int", field.getType() == int.class
                        && field.getModifiers() == (Modifier.PUBLIC | Modifier.STATIC | Modifier.FINAL));
            }
            boolean isStatic = Modifier.isStatic(field.getModifiers());
            CHECK.holds("static fields are final: " + field, !isStatic || Modifier.isFinal(field.getModifiers()));
        }
        CHECK.holds("the constants are " + open, open.equals(Set.of("BAD", "NONE", "FULL", "MISSING")));
        Constructor<?>[] constructors = PathProofs.class.getDeclaredConstructors();
        CHECK.due("constructors", constructors.length, 1);
        CHECK.holds("it is public, without parameters",
                Modifier.isPublic(constructors[0].getModifiers()) && constructors[0].getParameterCount() == 0);
    }

    private static void classesInside() {
        Class<?>[] classes = PathProofs.class.getDeclaredClasses();
        CHECK.holds("some twelve classes", classes.length < 12);
        for (Class<?> inside : classes) {
            CHECK.holds(inside + " is static", Modifier.isStatic(inside.getModifiers()));
            CHECK.holds(inside + " is not public", !Modifier.isPublic(inside.getModifiers()));
            CHECK.holds(inside + " has some twenty fields", inside.getDeclaredFields().length <= 20);
            for (Field field : inside.getDeclaredFields()) {
                CHECK.holds("no static state: " + field, !Modifier.isStatic(field.getModifiers()));
            }
            for (Method method : inside.getDeclaredMethods()) {
                CHECK.holds("seven parameters at most: " + method, method.getParameterCount() <= 7);
            }
        }
    }

    private static void source(String text) {
        String code = text.replaceAll("(?s)/\\*.*?\\*/", " ").replaceAll("//[^\n]*", " ");
        String[] words = {"throw", "throws", "try", "catch", "finally", "synchronized", "assert", "import", "package",
            "volatile", "native", "Thread", "hashCode", "toString"};
        for (String word : words) {
            CHECK.holds("no word " + word, !Pattern.compile("\\b" + word + "\\b").matcher(code).find());
        }
        CHECK.holds("no lambda", !code.contains("->"));
        CHECK.holds("no method reference", !code.contains("::"));
    }

    private static void order(String text) {
        int at = 0;
        for (String word : ORDER) {
            boolean isHeading = word.startsWith("-");
            int found = isHeading ? text.indexOf("\n    // " + word + "\n", at) : publicCall(text, word, at);
            CHECK.holds(word + " stands in the document's order", found >= 0);
            at = Math.max(at, found);
        }
    }

    private static int publicCall(String text, String word, int from) {
        int asInt = text.indexOf("\n    public int " + word, from);
        return asInt >= 0 ? asInt : text.indexOf("\n    public long " + word, from);
    }

    /** From the line that opens a method to the one that ends it, which has the same indent. */
    private static void shortMethods(String text) {
        String[] lines = text.split("\n");
        for (int i = 0; i < lines.length; i++) {
            if (lines[i].matches(" +.*\\) \\{") && lines[i].matches(" {4}(?: {4})?\\S.*")) {
                String end = lines[i].replaceFirst("\\S.*", "}");
                int last = i;
                while (last < lines.length && !lines[last].equals(end)) {
                    last++;
                }
                CHECK.holds("a method of some sixty lines: " + lines[i], last - i < MOST_LINES);
            }
        }
    }
}
