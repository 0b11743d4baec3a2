import java.io.IOException;
import java.lang.reflect.Method;
import java.lang.reflect.Modifier;
import java.nio.file.Files;
import java.nio.file.Path;
import java.util.Arrays;
import java.util.regex.Matcher;
import java.util.regex.Pattern;

/** README.md tells what is so: its example, the texts in its table, and all calls. */
public final class ReadmeTest {
    private static final Checks T = new Checks();
    private static final Pattern EXAMPLE = Pattern.compile("(?s)```java\n(.*?)```");
    private static final Pattern SAYS = Pattern.compile("say\\(coast, \"([^\"]*)\"\\);");
    private static final Pattern CALLS = Pattern.compile("coast\\.(\\w+)\\(([^)]*)\\);\\s*// (-?\\d+|true|false): .*");
    private static final Pattern TABLE = Pattern.compile("(?m)^\\| `(\\w+)\\((v?)\\)` \\|.*\\| `([^`]*)` \\|$");

    public static void main(String[] args) throws IOException {
        String readme = Files.readString(Path.of("README.md"));
        T.test("the example", () -> example(readme));
        T.test("the texts of the table", () -> table(readme));
        T.test("each call is named", () -> names(readme));
        T.test("how to run the tests", () -> T.same("README.md has .ci/run", readme.contains("\n    .ci/run\n"), true));
        T.finish();
    }

    private static void example(String readme) {
        Matcher block = EXAMPLE.matcher(readme);
        if (!block.find()) {
            T.wrong("README.md has no example");
            return;
        }
        ShellsByLoad coast = null;
        for (String line : block.group(1).split("\n")) {
            Matcher says = SAYS.matcher(line);
            Matcher calls = CALLS.matcher(line);
            if (line.equals("ShellsByLoad coast = new ShellsByLoad();")) {
                coast = new ShellsByLoad();
            } else if (says.matches()) {
                Checks.say(coast, says.group(1));
            } else if (calls.matches()) {
                answers(line, coast, calls);
            } else {
                T.wrong("'" + line + "' has no form that is known");
            }
        }
    }

    private static void answers(String line, ShellsByLoad coast, Matcher calls) {
        String told = calls.group(2).trim();
        Object[] numbers = told.isEmpty() ? new Object[0]
                : Arrays.stream(told.split(", ")).map(Integer::valueOf).toArray();
        String got = String.valueOf(call(coast, calls.group(1), numbers));
        if (!got.equals(calls.group(3))) {
            T.wrong("'" + line + "' answered " + got);
        }
    }

    private static Object call(ShellsByLoad coast, String name, Object... numbers) {
        Class<?>[] types = new Class<?>[numbers.length];
        Arrays.fill(types, int.class);
        try {
            return ShellsByLoad.class.getMethod(name, types).invoke(coast, numbers);
        } catch (ReflectiveOperationException e) {
            return e;
        }
    }

    private static void table(String readme) {
        Matcher row = TABLE.matcher(readme);
        int rows = 0;
        while (row.find()) {
            rows++;
            ShellsByLoad coast = Checks.coast("10;5", "o100");
            Checks.say(coast, row.group(3));
            Object[] numbers = row.group(2).isEmpty() ? new Object[0] : new Object[] {47};
            Object got = call(coast, row.group(1), numbers);
            // Below 0 and without a ROW: a sign can't stand there. law() may answer below 0, with its ROW.
            boolean read = got instanceof Integer && ((Integer) got >= 0 || coast.count(11) > 0);
            T.same(row.group() + " answered " + got + ", was read", read, true);
            T.same(row.group() + " left signs", coast.count(12), 0);
        }
        T.same("texts in the table", rows, 6);
    }

    private static void names(String readme) {
        for (Method m : ShellsByLoad.class.getDeclaredMethods()) {
            String with = "`" + m.getName() + "(" + (m.getParameterCount() == 0 ? ")`" : "");
            if (Modifier.isPublic(m.getModifiers()) && !readme.contains(with)) {
                T.wrong("README.md does not name " + m.getName());
            }
        }
    }
}
