import java.io.IOException;
import java.lang.reflect.Constructor;
import java.lang.reflect.Field;
import java.lang.reflect.Method;
import java.lang.reflect.Modifier;
import java.nio.file.Files;
import java.nio.file.Path;
import java.util.Arrays;
import java.util.Set;
import java.util.TreeSet;
import java.util.regex.Pattern;

/** The public face, and what of LANGUAGE.md can be read off the class and its source. */
public final class FaceTest {
    private static final Check CHECK = new Check("FaceTest");
    private static final Set<String> FACE = new TreeSet<>(Arrays.asList(
            "int put(int, long)", "int remove(int)", "int keep()", "long root(int)", "int leaves(int)",
            "int want(int, int)", "int forget()", "int show(int)", "int pass()",
            "int feed(int, long)", "int cut(int)", "int spoil(int, int)",
            "int take(long)", "int place()", "int get(int)", "long value()", "int write(int, long)",
            "int erase(int)", "long view()", "int count(int, int)", "int next(int)", "int told(int)", "int octet(int)"));

    public static void main(String[] args) throws IOException {
        constants();
        methods();
        fieldsAndConstructors();
        classesInside();
        source(Files.readString(Path.of("src/main/java/PathProofs.java")));
        CHECK.end();
    }

    private static void constants() {
        CHECK.due("BAD", PathProofs.BAD, -1);
        CHECK.due("NONE", PathProofs.NONE, -2);
        CHECK.due("FULL", PathProofs.FULL, -3);
        CHECK.due("MISSING", PathProofs.MISSING, -4);
    }

    private static String signature(Method method) {
        StringBuilder text = new StringBuilder(method.getReturnType() + " " + method.getName() + "(");
        for (Class<?> type : method.getParameterTypes()) {
            text.append(text.charAt(text.length() - 1) == '(' ? "" : ", ").append(type);
        }
        return text.append(")").toString();
    }

    private static void methods() {
        Set<String> open = new TreeSet<>();
        Set<String> openNames = new TreeSet<>();
        for (Method method : PathProofs.class.getDeclaredMethods()) {
            if (!Modifier.isPrivate(method.getModifiers())) {
                open.add(signature(method));
                openNames.add(method.getName());
                CHECK.holds(method + " is public", Modifier.isPublic(method.getModifiers()));
            }
        }
        CHECK.holds("the face is " + open, open.equals(FACE));
        for (Method method : PathProofs.class.getDeclaredMethods()) {
            boolean sameName = Modifier.isPrivate(method.getModifiers()) && openNames.contains(method.getName());
            CHECK.holds("no private method bears a public name: " + method, !sameName);
            CHECK.holds("seven parameters at most: " + method, method.getParameterCount() <= 7);
        }
    }

    private static void fieldsAndConstructors() {
        CHECK.holds("public and final", Modifier.isPublic(PathProofs.class.getModifiers())
                && Modifier.isFinal(PathProofs.class.getModifiers()));
        Set<String> open = new TreeSet<>();
        for (Field field : PathProofs.class.getDeclaredFields()) {
            if (!Modifier.isPrivate(field.getModifiers())) {
                open.add(field.getName());
            }
            boolean isStatic = Modifier.isStatic(field.getModifiers());
            CHECK.holds("static fields are final: " + field, !isStatic || Modifier.isFinal(field.getModifiers()));
        }
        CHECK.holds("the constants are " + open, open.equals(Set.of("BAD", "NONE", "FULL", "MISSING")));
        Constructor<?>[] constructors = PathProofs.class.getDeclaredConstructors();
        CHECK.due("constructors", constructors.length, 1);
        CHECK.holds("it is public, without parameters",
                Modifier.isPublic(constructors[0].getModifiers()) && constructors[0].getParameterCount() == 0);
    }

    private static void classesInside() {
        Class<?>[] classes = PathProofs.class.getDeclaredClasses();
        CHECK.holds("some twelve classes", classes.length < 12);
        for (Class<?> inside : classes) {
            CHECK.holds(inside + " is static", Modifier.isStatic(inside.getModifiers()));
            CHECK.holds(inside + " is not public", !Modifier.isPublic(inside.getModifiers()));
            CHECK.holds(inside + " has some twenty fields", inside.getDeclaredFields().length <= 20);
        }
    }

    private static void source(String text) {
        String code = text.replaceAll("(?s)/\\*.*?\\*/", " ").replaceAll("//[^\n]*", " ");
        String[] words = {"throw", "throws", "try", "catch", "finally", "synchronized", "assert", "import", "package",
            "volatile", "native", "Thread", "hashCode", "toString"};
        for (String word : words) {
            CHECK.holds("no word " + word, !Pattern.compile("\\b" + word + "\\b").matcher(code).find());
        }
        CHECK.holds("no lambda", !code.contains("->"));
        CHECK.holds("no method reference", !code.contains("::"));
    }
}
