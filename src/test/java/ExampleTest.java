import java.io.IOException;
import java.lang.reflect.InvocationTargetException;
import java.lang.reflect.Method;
import java.nio.file.Files;
import java.nio.file.Path;
import java.util.regex.Matcher;
import java.util.regex.Pattern;

/** The example in README.md: each of its calls is made, and answers what stands behind it. */
public final class ExampleTest {
    private static final Pattern CALL = Pattern.compile("x\\.(\\w+)\\((.*)\\);\\s+// (throws \\w+|[^,]+)(, .*)?");
    private static final String BEGIN = "RuleForge x = new RuleForge();";

    private final RuleForge x = new RuleForge();
    private int calls;

    private static Method named(String name) {
        for (Method m : RuleForge.class.getMethods()) {
            if (m.getName().equals(name) && m.getDeclaringClass() == RuleForge.class) {
                return m;
            }
        }
        throw new IllegalArgumentException("no call has the name " + name);
    }

    private static Object value(String text, Class<?> type) throws ReflectiveOperationException {
        if (type == boolean.class) {
            return text.equals("true");
        }
        String constant = "RuleForge.";
        boolean isConstant = text.startsWith(constant);
        return isConstant ? RuleForge.class.getField(text.substring(constant.length())).getInt(null) : Integer.parseInt(text);
    }

    private String answer(String name, String given) throws ReflectiveOperationException {
        Method method = named(name);
        Class<?>[] types = method.getParameterTypes();
        Object[] values = new Object[types.length];
        String[] texts = given.split(", ");
        for (int i = 0; i < types.length; i++) {
            values[i] = value(texts[i], types[i]);
        }
        try {
            return String.valueOf(method.invoke(x, values));
        } catch (InvocationTargetException e) {
            return "throws " + e.getCause().getClass().getSimpleName();
        }
    }

    private void go(String line) throws ReflectiveOperationException {
        Matcher call = CALL.matcher(line);
        if (!call.matches()) {
            Bench.due("a line of the example is a call with its answer", line, BEGIN);
            return;
        }
        calls++;
        Bench.due("README.md: " + line, answer(call.group(1), call.group(2)), call.group(3));
    }

    public static void main(String[] args) throws IOException, ReflectiveOperationException {
        ExampleTest example = new ExampleTest();
        boolean isCode = false;
        for (String line : Files.readAllLines(Path.of("README.md"))) {
            boolean isFence = line.startsWith("```");
            isCode = isFence ? line.equals("```java") : isCode;
            if (isCode && !isFence) {
                example.go(line);
            }
        }
        Bench.due("the example has calls", example.calls > 50 && example.calls <= 512, true);
        Bench.end();
    }
}
