import java.io.IOException;
import java.lang.reflect.Method;
import java.lang.reflect.Modifier;
import java.nio.file.Files;
import java.nio.file.Path;
import java.util.Set;
import java.util.TreeSet;
import java.util.regex.Matcher;
import java.util.regex.Pattern;

/**
 * Prints the Java blocks of README.md as one test: a call is compared with the answer that stands behind it.
 * Ends with exit code 1 if a call there has no answer, or if the README shows no use of some method.
 */
public final class ReadmeSource {
    /** A call alone, or one whose answer is given a name; and behind it, up to a colon, the answer. */
    private static final Pattern CALL =
            Pattern.compile("(?:(int|long) (\\w+) = )?(\\w+\\.(\\w+)\\(.*\\));(?: +// ([^:]+)(?::.*)?)?");

    private final StringBuilder body = new StringBuilder();
    private final Set<String> notUsed = publicMethods();
    private boolean isWrong = false;

    public static void main(String[] args) throws IOException {
        ReadmeSource source = new ReadmeSource();
        boolean isJava = false;
        for (String line : Files.readAllLines(Path.of("README.md"))) {
            if (line.startsWith("```")) {
                isJava = line.equals("```java");
            } else if (isJava) {
                source.add(line);
            }
        }
        source.end();
    }

    private static Set<String> publicMethods() {
        Set<String> names = new TreeSet<>();
        for (Method method : PathProofs.class.getDeclaredMethods()) {
            if (Modifier.isPublic(method.getModifiers())) {
                names.add(method.getName());
            }
        }
        return names;
    }

    private void add(String line) {
        Matcher call = CALL.matcher(line);
        if (!call.matches()) {
            // A new object, or a loop: Java as it stands, with a call in it that has no answer of its own.
            body.append(line).append('\n');
            return;
        }
        if (call.group(5) == null) {
            wrong("has no answer: " + line);
            return;
        }
        notUsed.remove(call.group(4));
        String got = call.group(3);
        if (call.group(2) != null) {
            body.append(call.group(1) + " " + call.group(2) + " = " + got + ";\n");
            got = call.group(2);
        }
        String due = call.group(5).strip();
        body.append("check.due(\"" + call.group(3) + "\", " + got + ", " + (isNumber(due) ? due + "L" : due) + ");\n");
    }

    private static boolean isNumber(String text) {
        return text.matches("-?\\d+");
    }

    private void wrong(String what) {
        isWrong = true;
        System.err.println("README.md: " + what);
    }

    private void end() {
        if (!notUsed.isEmpty()) {
            wrong("shows no use of " + notUsed);
        }
        if (isWrong) {
            System.exit(1);
        }
        System.out.println("public final class ReadmeCalls {");
        System.out.println("static final int BAD = " + PathProofs.BAD + ", NONE = " + PathProofs.NONE
                + ", FULL = " + PathProofs.FULL + ", MISSING = " + PathProofs.MISSING + ";");
        System.out.println("public static void main(String[] args) {");
        System.out.println("Check check = new Check(\"README.md\");");
        System.out.print(body);
        System.out.println("check.end();\n}\n}");
    }
}
