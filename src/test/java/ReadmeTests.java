import java.io.IOException;
import java.lang.reflect.InvocationTargetException;
import java.lang.reflect.Method;
import java.nio.file.Files;
import java.nio.file.Path;
import java.util.List;
import java.util.Set;
import java.util.TreeSet;
import java.util.regex.Matcher;
import java.util.regex.Pattern;

/** Makes the calls of README.md's examples, so that they stay true: each line is a call // answer. */
public final class ReadmeTests {
    private static final Pattern MADE =
            Pattern.compile("DeclareForms form = new DeclareForms\\((-?\\d+)\\);");
    private static final Pattern CALL =
            Pattern.compile("form\\.(\\w+)\\((.*)\\); +// (-?\\w+)(: .*)?");

    private static DeclareForms form = new DeclareForms(0);
    private static final Set<String> called = new TreeSet<>();
    private static int calls = 0;
    private static int wrong = 0;

    public static void main(String[] args) throws IOException {
        boolean example = false;
        for (String line : Files.readAllLines(Path.of("README.md"))) {
            if (line.startsWith("```")) {
                example = line.equals("```java");
            } else if (example) {
                follow(line);
            }
        }
        everyMethodIsShown();
        System.out.println(wrong == 0
                ? calls + " calls of README.md answer as it tells"
                : wrong + " lines of README.md do not hold");
        if (wrong != 0) {
            System.exit(1);
        }
    }

    private static void follow(String line) {
        Matcher made = MADE.matcher(line);
        Matcher call = CALL.matcher(line);
        if (made.matches()) {
            form = new DeclareForms(Integer.parseInt(made.group(1)));
        } else if (call.matches()) {
            calls++;
            called.add(call.group(1));
            String got = answer(call.group(1), call.group(2));
            if (!got.equals(call.group(3))) {
                fail(line + " answered " + got);
            }
        } else {
            fail(line + " is no call with its answer");
        }
    }

    private static String answer(String name, String arguments) {
        try {
            Method m = methodOf(name);
            return String.valueOf(m.invoke(form, valuesOf(m.getParameterTypes(), arguments)));
        } catch (InvocationTargetException e) {
            return e.getCause().getClass().getSimpleName();
        } catch (ReflectiveOperationException | IllegalArgumentException e) {
            return "no call: " + e;
        }
    }

    private static Method methodOf(String name) throws NoSuchMethodException {
        for (Method m : DeclareForms.class.getDeclaredMethods()) {
            if (m.getName().equals(name)) {
                return m;
            }
        }
        throw new NoSuchMethodException(name);
    }

    private static Object[] valuesOf(Class<?>[] types, String arguments) {
        List<String> told = arguments.isEmpty() ? List.of() : List.of(arguments.split(", "));
        Object[] values = new Object[told.size()];
        for (int i = 0; i < values.length && i < types.length; i++) {
            values[i] = valueOf(types[i], told.get(i));
        }
        return values;
    }

    private static Object valueOf(Class<?> type, String told) {
        if (type == byte.class) {
            return Byte.valueOf(told.replace("(byte) ", ""));
        }
        if (type == long.class) {
            return Long.valueOf(told);
        }
        return Integer.valueOf(told);
    }

    private static void everyMethodIsShown() {
        for (Method m : DeclareForms.class.getMethods()) {
            if (m.getDeclaringClass() == DeclareForms.class && !called.contains(m.getName())) {
                fail("no example shows " + m.getName());
            }
        }
    }

    private static void fail(String text) {
        wrong++;
        System.out.println(text);
    }

    private ReadmeTests() {
    }
}
