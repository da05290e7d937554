import java.io.IOException;
import java.lang.reflect.Method;
import java.lang.reflect.Modifier;
import java.net.URISyntaxException;
import java.nio.file.Files;
import java.nio.file.Path;
import java.util.ArrayList;
import java.util.List;
import java.util.regex.Matcher;
import java.util.regex.Pattern;
import javax.tools.ToolProvider;

/** README.md: its example compiles and answers what stands beside each call, and it names every call of the face. */
public final class ReadmeTest {
    private static final Pattern MADE = Pattern.compile("int (\\w+) = (.*);\\s+// (-?\\d+)(:.*)?");
    private static final Pattern CALLED = Pattern.compile("(house\\..*);\\s+// (-?\\d+)(:.*)?");

    private static int answers = 0;

    public static void main(String[] args) throws Exception {
        List<String> readme = Files.readAllLines(Path.of("README.md"));
        runExample(exampleOf(readme));
        Checks.due("the example has answers", answers >= 15 ? 1 : 0, 1);
        String text = String.join("\n", readme);
        for (Method m : CollegeHouse.class.getDeclaredMethods()) {
            if (Modifier.isPublic(m.getModifiers())) {
                Checks.due("README.md names " + m.getName(), text.contains("`" + m.getName() + "`") ? 1 : 0, 1);
            }
        }
        Checks.end();
    }

    private static List<String> exampleOf(List<String> readme) {
        List<String> lines = new ArrayList<>();
        boolean inExample = false;
        for (String line : readme) {
            if (line.startsWith("```")) {
                inExample = line.equals("```java");
            } else if (inExample) {
                lines.add(withCheck(line));
            }
        }
        return lines;
    }

    /** A line whose answer stands behind it asks for that answer. */
    private static String withCheck(String line) {
        Matcher made = MADE.matcher(line);
        Matcher called = CALLED.matcher(line);
        if (made.matches()) {
            answers++;
            return "int " + made.group(1) + " = " + made.group(2) + ";\n"
                + check(made.group(2), made.group(1), made.group(3));
        }
        if (called.matches()) {
            answers++;
            return check(called.group(1), called.group(1), called.group(2));
        }
        return line;
    }

    private static String check(String call, String got, String want) {
        return "Checks.due(\"README.md: " + call.replace("\"", "'") + "\", " + got + ", " + want + ");";
    }

    /** The example is compiled beside this test, so that it may use the tests' own checks. */
    private static void runExample(List<String> lines) throws IOException, URISyntaxException,
            ReflectiveOperationException {
        Path folder = Path.of(ReadmeTest.class.getProtectionDomain().getCodeSource().getLocation().toURI());
        Path file = folder.resolve("ReadmeExample.java");
        Files.writeString(file, "public final class ReadmeExample {\n    public static void run() {\n"
            + String.join("\n", lines) + "\n    }\n}\n");
        int code = ToolProvider.getSystemJavaCompiler().run(null, null, null, "-cp", folder.toString(),
            "-d", folder.toString(), file.toString());
        Checks.due("the example compiles", code, 0);
        if (code == 0) {
            Class.forName("ReadmeExample").getMethod("run").invoke(null);
        }
    }
}
