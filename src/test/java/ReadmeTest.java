import java.io.File;
import java.lang.reflect.InvocationTargetException;
import java.lang.reflect.Method;
import java.lang.reflect.Modifier;
import java.nio.charset.StandardCharsets;
import java.nio.file.Files;
import java.nio.file.Path;
import java.util.regex.Matcher;
import java.util.regex.Pattern;

/** README.md: each line of its example answers as it says there, and it names every call and every test. */
public final class ReadmeTest {
    static final String NEW_OBJECT = "MustNotStop bell = new MustNotStop();";
    static final Pattern EXAMPLE = Pattern.compile("bell\\.(\\w+)\\(([^)]*)\\); +// (-?\\d+|true|false|throws \\w+)(: .*)?");

    static int wrong = 0;
    static int answers = 0;

    public static void main(String[] args) throws Exception {
        String page = Files.readString(Path.of("README.md"), StandardCharsets.UTF_8);
        example(page);
        for (Method each : MustNotStop.class.getDeclaredMethods()) {
            if (Modifier.isPublic(each.getModifiers())) {
                mustStand(page, "`" + each.getName() + "`");
            }
        }
        File[] tests = new File("src/test/java").listFiles();
        for (File each : tests == null ? new File[0] : tests) {
            mustStand(page, "`" + each.getName() + "`");
        }
        mustStand(page, "`bash .ci/run`");
        System.out.println("ReadmeTest: " + answers + " answers, " + wrong + " wrong");
        if (wrong > 0 || answers == 0) {
            System.exit(1);
        }
    }

    static void mustStand(String page, String words) {
        if (!page.contains(words)) {
            fault("README.md does not name " + words);
        }
    }

    static void fault(String what) {
        wrong++;
        System.out.println(what);
    }

    static void example(String page) throws Exception {
        MustNotStop bell = null;
        boolean inside = false;
        for (String line : page.split("\n")) {
            if (line.startsWith("```")) {
                inside = line.equals("```java");
            } else if (inside && line.equals(NEW_OBJECT)) {
                bell = new MustNotStop();
            } else if (inside) {
                exampleLine(bell, line);
            }
        }
    }

    static void exampleLine(MustNotStop bell, String line) throws Exception {
        Matcher told = EXAMPLE.matcher(line);
        if (bell == null || !told.matches()) {
            fault("README.md: no call with its answer: " + line);
            return;
        }
        answers++;
        String got = answer(bell, told.group(1), told.group(2));
        if (!got.equals(told.group(3))) {
            fault("README.md: " + line + " answered " + got);
        }
    }

    static String answer(MustNotStop bell, String name, String numbers) throws Exception {
        String[] parts = numbers.isEmpty() ? new String[0] : numbers.split(", ");
        Class<?>[] kinds = new Class<?>[parts.length];
        Object[] values = new Object[parts.length];
        for (int i = 0; i < parts.length; i++) {
            kinds[i] = int.class;
            values[i] = Integer.decode(parts[i]);
        }
        try {
            return String.valueOf(MustNotStop.class.getMethod(name, kinds).invoke(bell, values));
        } catch (InvocationTargetException e) {
            return "throws " + e.getCause().getClass().getSimpleName();
        }
    }
}
