import java.io.IOException;
import java.lang.reflect.Method;
import java.nio.file.Path;
import java.util.List;
import java.util.regex.Matcher;
import java.util.regex.Pattern;

/** Each line "x.call(..);   // n: .." of README.md's example answers n. It is run where README.md is. */
public final class ReadmeTest {
    private static final Pattern LINE = Pattern.compile("x\\.(\\w+)\\((.*)\\); +// (-?\\d+).*");
    private static final int LEAST_LINES = 10;

    public static void main(String[] args) throws IOException, ReflectiveOperationException {
        Due due = new Due("ReadmeTest");
        List<String> lines = java.nio.file.Files.readAllLines(Path.of("README.md"));
        StepRewriter x = new StepRewriter();
        int asked = 0;
        for (String line : lines) {
            Matcher parts = LINE.matcher(line);
            if (parts.matches()) {
                due.is(line, call(x, parts.group(1), parts.group(2)), Long.parseLong(parts.group(3)));
                asked++;
            }
        }
        due.is("lines of the example", asked >= LEAST_LINES ? 1 : 0, 1);
        due.end();
    }

    private static int call(StepRewriter x, String name, String written) throws ReflectiveOperationException {
        for (Method method : StepRewriter.class.getMethods()) {
            if (method.getName().equals(name)) {
                Class<?>[] types = method.getParameterTypes();
                String[] texts = types.length == 0 ? new String[0] : written.split(", ");
                Object[] values = new Object[types.length];
                for (int i = 0; i < types.length; i++) {
                    values[i] = value(types[i], texts[i]);
                }
                return (Integer) method.invoke(x, values);
            }
        }
        throw new IllegalStateException("README.md names a call that is not there: " + name);
    }

    private static Object value(Class<?> type, String text) {
        if (type == boolean.class) {
            return Boolean.valueOf(text);
        }
        if (type == long.class) {
            return Long.decode(text.replace("L", ""));
        }
        return Integer.decode(text);
    }
}
