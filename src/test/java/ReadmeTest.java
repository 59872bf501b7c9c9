import java.io.File;
import java.io.IOException;
import java.lang.reflect.Method;
import java.lang.reflect.Modifier;
import java.nio.file.Files;
import java.nio.file.Path;
import java.util.regex.Matcher;
import java.util.regex.Pattern;

/**
 * Does the calls of README.md's example and compares their answers with those it tells, and looks
 * whether it names every call and every test. -Dproject= tells the project's directory, if it is not this one.
 */
public final class ReadmeTest {
    private static final Pattern CALL = Pattern.compile("base\\.(\\w+)\\((.*)\\);\\s*// (-?\\w+).*");

    private ReadmeTest() {
    }

    public static void main(String[] args) throws IOException, ReflectiveOperationException {
        Path project = Path.of(System.getProperty("project", "."));
        String readme = Files.readString(project.resolve("README.md"));
        checkExample(readme);
        for (Method method : LandBase.class.getDeclaredMethods()) {
            if (Modifier.isPublic(method.getModifiers())) {
                dueNamed(readme, method.getName());
            }
        }
        for (File file : project.resolve("src/test/java").toFile().listFiles()) {
            if (file.getName().endsWith("Test.java")) {
                dueNamed(readme, file.getName().replace(".java", ""));
            }
        }
        dueNamed(readme, "src/main/java/LandBase.java");
        Desk.due("README.md tells how to run the tests", readme.contains("\n    .ci/run\n"), true);
        Desk.finish();
    }

    private static void dueNamed(String readme, String name) {
        Desk.due("README.md names " + name, readme.contains("`" + name + "`"), true);
    }

    private static void checkExample(String readme) throws ReflectiveOperationException {
        LandBase base = new LandBase();
        int calls = 0;
        for (String line : readme.split("\n")) {
            Matcher matcher = CALL.matcher(line);
            if (line.startsWith("base.")) {
                Desk.due("a call and its answer: " + line, matcher.matches(), true);
                String got = String.valueOf(answer(base, matcher.group(1), matcher.group(2)));
                Desk.due(line + " answered " + got + ", equal", got.equals(matcher.group(3)), true);
                calls++;
            }
        }
        Desk.due("calls of the example, at least 20", calls >= 20, true);
    }

    private static Object answer(LandBase base, String name, String list) throws ReflectiveOperationException {
        String[] texts = list.isEmpty() ? new String[0] : list.split(", ");
        Class<?>[] types = new Class<?>[texts.length];
        Object[] values = new Object[texts.length];
        for (int i = 0; i < texts.length; i++) {
            boolean isLong = texts[i].endsWith("L");
            long value = Long.decode(isLong ? texts[i].substring(0, texts[i].length() - 1) : texts[i]);
            types[i] = isLong ? long.class : int.class;
            values[i] = isLong ? (Object) value : (Object) (int) value;
        }
        return LandBase.class.getMethod(name, types).invoke(base, values);
    }
}
