import java.io.IOException;
import java.lang.reflect.Method;
import java.nio.file.Files;
import java.nio.file.Path;
import java.util.regex.Matcher;
import java.util.regex.Pattern;

/** What README.md shows of the class is what the class answers: its example is gone through call by call. */
public final class ReadmeTest {
    private static final Pattern CALL = Pattern.compile("house\\.(\\w+)\\(([^)]*)\\);\\s+// (-?\\d+)(:.*)?");

    private final NewsreelHouse house = new NewsreelHouse();
    private int calls = 0;
    private int wrong = 0;

    private static Method named(String name) {
        for (Method m : NewsreelHouse.class.getDeclaredMethods()) {
            if (m.getName().equals(name)) {
                return m;
            }
        }
        throw new IllegalArgumentException("there is no call " + name);
    }

    private static Object value(Class<?> type, String word) {
        if (type == boolean.class) {
            return Boolean.valueOf(word);
        }
        if (type == long.class) {
            return Long.decode(word.replace("L", ""));
        }
        return Integer.valueOf(word);
    }

    private static Object[] values(Method method, String words) {
        String[] told = words.isEmpty() ? new String[0] : words.split(", ");
        Class<?>[] types = method.getParameterTypes();
        if (told.length != types.length) {
            throw new IllegalArgumentException("not so many values: " + words);
        }
        Object[] values = new Object[told.length];
        for (int i = 0; i < told.length; i++) {
            values[i] = value(types[i], told[i]);
        }
        return values;
    }

    private void fault(String line, String what) {
        wrong++;
        System.out.println("README.md: " + line + "\n    " + what);
    }

    private void check(String line) throws ReflectiveOperationException {
        Matcher m = CALL.matcher(line);
        if (!m.matches()) {
            fault(line, "is no call with its answer");
            return;
        }
        Method method = named(m.group(1));
        int got = (Integer) method.invoke(house, values(method, m.group(2)));
        calls++;
        if (got != Integer.parseInt(m.group(3))) {
            fault(line, "answered " + got);
        }
    }

    public static void main(String[] args) throws IOException, ReflectiveOperationException {
        ReadmeTest test = new ReadmeTest();
        String text = Files.readString(Path.of("README.md"));
        int begun = text.indexOf("```java\n");
        int end = text.indexOf("\n```\n", begun);
        for (String line : begun < 0 || end < 0 ? new String[0] : text.substring(begun + 8, end).split("\n")) {
            if (!line.isEmpty() && !line.startsWith("//") && !line.startsWith("NewsreelHouse house")) {
                test.check(line);
            }
        }
        if (test.calls < 40) {
            test.fault("the example", "has only " + test.calls + " calls");
        }
        System.out.println(test.calls + " calls of README.md, " + test.wrong + " are not as due");
        if (test.wrong != 0) {
            System.exit(1);
        }
    }
}
