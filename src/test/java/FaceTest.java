import java.lang.reflect.Constructor;
import java.lang.reflect.Field;
import java.lang.reflect.Method;
import java.lang.reflect.Modifier;
import java.nio.file.Files;
import java.nio.file.Path;
import java.util.Set;
import java.util.TreeSet;

/** The public face is that of the document, and nothing more. */
public final class FaceTest {
    public static void main(String[] args) throws Exception {
        Set<String> due = new TreeSet<>();
        boolean inFace = false;
        for (String line : Files.readAllLines(Path.of("../shared/DOC.md"))) {
            inFace = inFace ? !line.startsWith("```") : line.startsWith("public final class CollegeHouse") || inFace;
            if (inFace && line.startsWith("    public ")) {
                due.add(plain(line));
            }
        }
        Set<String> got = new TreeSet<>();
        int modifiers = CollegeHouse.class.getModifiers();
        if (!Modifier.isPublic(modifiers) || !Modifier.isFinal(modifiers)) {
            Checks.fail("the class is not public and final");
        }
        for (Field f : CollegeHouse.class.getDeclaredFields()) {
            if (!Modifier.isPrivate(f.getModifiers())) {
                got.add("public static final " + f.getType() + " " + f.getName());
            }
        }
        for (Constructor<?> c : CollegeHouse.class.getDeclaredConstructors()) {
            got.add("public CollegeHouse(" + types(c.getParameterTypes()) + ")");
        }
        for (Method m : CollegeHouse.class.getDeclaredMethods()) {
            if (!Modifier.isPrivate(m.getModifiers()) && !m.isSynthetic()) {
                got.add(Modifier.toString(m.getModifiers()) + " " + m.getReturnType() + " " + m.getName() + "("
                    + types(m.getParameterTypes()) + ")");
            }
        }
        for (Class<?> c : CollegeHouse.class.getDeclaredClasses()) {
            if (Modifier.isPublic(c.getModifiers()) || !Modifier.isStatic(c.getModifiers())) {
                Checks.fail(c + " is public, or not static");
            }
        }
        for (String one : due) {
            Checks.due("the class has " + one, got.contains(one) ? 1 : 0, 1);
        }
        for (String one : got) {
            Checks.due("the document has " + one, due.contains(one) ? 1 : 0, 1);
        }
        Checks.due("the face was found", due.size() >= 60 ? 1 : 0, 1);
        Checks.end();
    }

    private static String types(Class<?>[] of) {
        StringBuilder text = new StringBuilder();
        for (Class<?> c : of) {
            text.append(text.length() == 0 ? "" : ",").append(c);
        }
        return text.toString();
    }

    /** A line of the face without the names of its parameters and the value of a constant. */
    private static String plain(String line) {
        String text = line.trim().replaceAll("( =.*)?;$", "");
        text = text.replaceAll("(int|long|boolean) \\w+(?=[,)])", "$1");
        return text.replace(", ", ",");
    }
}
