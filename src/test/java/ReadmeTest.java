import java.io.IOException;
import java.lang.reflect.InvocationTargetException;
import java.lang.reflect.Method;
import java.nio.file.Files;
import java.nio.file.Path;
import java.util.ArrayList;
import java.util.List;
import java.util.Set;
import java.util.TreeSet;
import java.util.regex.Matcher;
import java.util.regex.Pattern;

/** Makes the calls of README.md's examples: each must answer what stands behind it. */
public final class ReadmeTest {
    private static final String BEGIN = "```java";
    private static final String END = "```";
    private static final String NEW_OBJECT = "MemoRuntime m = new MemoRuntime();";
    /** A call and the answer behind it, which ends with a colon or the line. */
    private static final Pattern CALL = Pattern.compile("m\\.(\\w+)\\((.*)\\); *// ([^:]+)(:.*)?");

    private static final Check CHECK = new Check();
    private static final Set<String> CALLED = new TreeSet<>();

    public static void main(String[] args) throws IOException {
        MemoRuntime m = new MemoRuntime();
        for (String line : exampleLines()) {
            if (line.equals(NEW_OBJECT)) {
                m = new MemoRuntime();
            } else {
                compare(m, line);
            }
        }
        showsEveryCall();
        CHECK.end();
    }

    private static List<String> exampleLines() throws IOException {
        List<String> lines = new ArrayList<>();
        boolean inside = false;
        for (String line : Files.readAllLines(Path.of("README.md"))) {
            if (line.equals(END)) {
                inside = false;
            }
            if (inside) {
                lines.add(line);
            }
            if (line.equals(BEGIN)) {
                inside = true;
            }
        }
        return lines;
    }

    private static void compare(MemoRuntime m, String line) {
        Matcher call = CALL.matcher(line);
        if (!call.matches()) {
            CHECK.same("a line of the README", line, "a call with its answer");
            return;
        }
        CALLED.add(call.group(1));
        CHECK.same(line, answer(m, call.group(1), call.group(2)), call.group(3));
    }

    private static String answer(MemoRuntime m, String name, String arguments) {
        Method method = methodOf(name);
        try {
            Object answer = method.invoke(m, parsed(arguments, method.getParameterTypes()));
            return method.getReturnType() == void.class ? "nothing" : String.valueOf(answer);
        } catch (InvocationTargetException e) {
            return "throws " + e.getCause().getClass().getSimpleName();
        } catch (IllegalAccessException | IllegalArgumentException e) {
            return "no such call";
        }
    }

    private static Method methodOf(String name) {
        for (Method method : MemoRuntime.class.getDeclaredMethods()) {
            if (method.getName().equals(name)) {
                return method;
            }
        }
        throw new AssertionError("no method " + name);
    }

    private static Object[] parsed(String arguments, Class<?>[] types) {
        String[] parts = arguments.isEmpty() ? new String[0] : arguments.split(", ");
        Object[] result = new Object[parts.length];
        for (int i = 0; i < parts.length && i < types.length; i++) {
            if (types[i] == long.class) {
                result[i] = Long.decode(parts[i].replace("L", ""));
            } else {
                result[i] = Integer.decode(parts[i]);
            }
        }
        return result;
    }

    private static void showsEveryCall() {
        Set<String> due = new TreeSet<>();
        for (Method method : MemoRuntime.class.getMethods()) {
            if (method.getDeclaringClass() == MemoRuntime.class) {
                due.add(method.getName());
            }
        }
        CHECK.same("the calls in the README's examples", CALLED.toString(), due.toString());
    }
}
