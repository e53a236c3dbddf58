import java.io.IOException;
import java.lang.reflect.Method;
import java.nio.file.Files;
import java.nio.file.Path;
import java.util.List;
import java.util.Set;
import java.util.TreeSet;
import java.util.regex.Matcher;
import java.util.regex.Pattern;

/** The examples of README.md: each call answers what stands behind it, and no call is left out. */
public final class ReadmeTest {
    private static final String MAKE = "GlassWires glass = new GlassWires();";
    private static final Pattern CALL = Pattern.compile("glass\\.(\\w+)\\(([^()]*)\\); +// (\\S+): \\S.*");

    private GlassWires glass;
    private final Set<String> shown = new TreeSet<>();

    public static void main(String[] args) throws IOException, ReflectiveOperationException {
        Check.of("README.md");
        new ReadmeTest().read(Files.readAllLines(Path.of("README.md")));
        Check.end();
    }

    private void read(List<String> lines) throws ReflectiveOperationException {
        boolean inExample = false;
        for (String line : lines) {
            if (line.startsWith("```")) {
                inExample = line.equals("```java");
            } else if (inExample) {
                example(line);
            }
        }
        for (Method method : GlassWires.class.getMethods()) {
            if (method.getDeclaringClass() == GlassWires.class) {
                Check.holds(method.getName() + " is shown", shown.contains(method.getName()));
            }
        }
    }

    private void example(String line) throws ReflectiveOperationException {
        if (line.equals(MAKE)) {
            glass = new GlassWires();
            return;
        }
        Matcher call = CALL.matcher(line);
        boolean isCall = call.matches() && glass != null;
        Check.holds("a call with its answer: " + line, isCall);
        if (isCall) {
            shown.add(call.group(1));
            Check.due(line, answer(call.group(1), call.group(2)), number(call.group(3)));
        }
    }

    private long answer(String name, String arguments) throws ReflectiveOperationException {
        String[] told = arguments.isEmpty() ? new String[0] : arguments.split(", ");
        for (Method method : GlassWires.class.getMethods()) {
            if (method.getName().equals(name) && method.getParameterCount() == told.length) {
                Object[] values = new Object[told.length];
                for (int i = 0; i < told.length; i++) {
                    values[i] = value(told[i], method.getParameterTypes()[i]);
                }
                return ((Number) method.invoke(glass, values)).longValue();
            }
        }
        throw new NoSuchMethodException(name + "(" + arguments + ")");
    }

    private static Object value(String told, Class<?> type) {
        if (type == boolean.class) {
            return Boolean.valueOf(told);
        }
        if (type == long.class) {
            return Long.decode(told.substring(0, told.length() - 1));
        }
        return Integer.valueOf(told);
    }

    /** A number, or the name of one of the class's constants. */
    private static long number(String told) throws ReflectiveOperationException {
        boolean isName = Character.isLetter(told.charAt(0));
        return isName ? GlassWires.class.getField(told).getInt(null) : Long.parseLong(told);
    }
}
