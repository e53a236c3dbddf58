import java.io.IOException;
import java.lang.reflect.Constructor;
import java.lang.reflect.Executable;
import java.lang.reflect.Field;
import java.lang.reflect.Method;
import java.lang.reflect.Modifier;
import java.nio.file.Files;
import java.nio.file.Path;
import java.util.ArrayList;
import java.util.Arrays;
import java.util.List;
import java.util.Set;
import java.util.TreeSet;
import java.util.regex.Matcher;
import java.util.regex.Pattern;

/** The public face, and those rules of LANGUAGE.md that can be seen from classes and source. */
public final class RulesTest {
    private static final String[] FACE = {
        "int plate(int, int)", "int letters(long)", "int blank()", "int good(int, int)", "int wire(int, int)",
        "int lay(int, boolean)", "int solder(int, boolean)", "int about(int, int)", "int point(int, int)",
        "int covers(int, int, int)", "int many(int)", "int end(int, int)", "int cell(int, int)", "int size(int)",
        "int paints()", "int paint(int)", "int colour(int, int, int)", "int foes(int, int, boolean)",
        "int rule(int, int)", "int fill(int, int, int)", "int empty(int)", "int field(int, int, int)",
        "int layer(int, int, int, int)", "int fire(int)", "int polish()", "int state(int)", "int fills(int)",
        "int plan(int)", "int heat(int, int)", "int back(int, int)", "int pull(int)", "int bow(int)",
        "int straight(int)", "int strain(int, int)", "int cooling(int)", "int cool(int, int)", "int harms(int, int)",
        "int safe(int, int, int)", "int rod(int, int)", "int cut(int)", "int count(int)", "long digest()"};
    private static final String[] CONSTANTS = {"NONE", "UNKNOWN", "OUTSIDE", "STATE", "FULL"};
    private static final int MOST_PARAMETERS = 7, MOST_CLASSES = 12, MOST_FIELDS = 20, MOST_LINES = 60;

    public static void main(String[] args) throws IOException {
        String path = args.length > 0 ? args[0] : "src/main/java/GlassWires.java";
        List<String> lines = Files.readAllLines(Path.of(path));
        face();
        classes();
        words(lines);
        nothingNewInCalls(lines);
        shortMethods(lines);
        Check.end();
    }

    private static List<Class<?>> allClasses() {
        List<Class<?>> all = new ArrayList<>(List.of(GlassWires.class));
        all.addAll(Arrays.asList(GlassWires.class.getDeclaredClasses()));
        return all;
    }

    private static boolean isPrivate(int modifiers) {
        return Modifier.isPrivate(modifiers);
    }

    private static void face() {
        Check.of("the face");
        Set<String> methods = new TreeSet<>();
        for (Method method : GlassWires.class.getDeclaredMethods()) {
            if (!isPrivate(method.getModifiers())) {
                methods.add(told(method));
                Check.holds(method + " is public and of the object", method.getModifiers() == Modifier.PUBLIC);
            }
        }
        Check.holds("its methods are " + methods, methods.equals(new TreeSet<>(List.of(FACE))));
        Set<String> fields = new TreeSet<>();
        for (Field field : GlassWires.class.getDeclaredFields()) {
            if (!isPrivate(field.getModifiers())) {
                fields.add(field.getName());
            }
        }
        Check.holds("its constants are " + fields, fields.equals(new TreeSet<>(List.of(CONSTANTS))));
        Constructor<?>[] constructors = GlassWires.class.getDeclaredConstructors();
        Check.due("constructors", constructors.length, 1);
        Check.due("its parameters", constructors[0].getParameterCount(), 0);
        Check.holds("it is public", constructors[0].getModifiers() == Modifier.PUBLIC);
        Check.holds("final", Modifier.isFinal(GlassWires.class.getModifiers()));
        Check.holds("no package", GlassWires.class.getPackageName().isEmpty());
    }

    private static String told(Method method) {
        StringBuilder told = new StringBuilder(method.getReturnType().getSimpleName());
        told.append(' ').append(method.getName()).append('(');
        String comma = "";
        for (Class<?> parameter : method.getParameterTypes()) {
            told.append(comma).append(parameter.getSimpleName());
            comma = ", ";
        }
        return told.append(')').toString();
    }

    private static Set<String> publicNames() {
        Set<String> names = new TreeSet<>();
        for (String one : FACE) {
            names.add(one.substring(one.indexOf(' ') + 1, one.indexOf('(')));
        }
        return names;
    }

    private static void classes() {
        Check.of("the classes");
        Check.holds("twelve at most", allClasses().size() <= MOST_CLASSES);
        for (Class<?> one : allClasses()) {
            boolean inside = one != GlassWires.class;
            Check.holds(one + " is static", !inside || Modifier.isStatic(one.getModifiers()));
            Check.holds(one + " is not public", !inside || !Modifier.isPublic(one.getModifiers()));
            Check.due(one + " has classes inside", inside ? one.getDeclaredClasses().length : 0, 0);
            int fields = 0;
            for (Field field : one.getDeclaredFields()) {
                fields += Modifier.isStatic(field.getModifiers()) ? 0 : 1;
                Check.holds(field + " is final, if static",
                        !Modifier.isStatic(field.getModifiers()) || Modifier.isFinal(field.getModifiers()));
            }
            Check.holds(one + " has " + fields + " fields", fields <= MOST_FIELDS);
            for (Method method : one.getDeclaredMethods()) {
                parameters(method);
                Check.holds(method + " bears no public one's name",
                        one == GlassWires.class && !isPrivate(method.getModifiers())
                                || !publicNames().contains(method.getName()));
            }
            for (Constructor<?> constructor : one.getDeclaredConstructors()) {
                parameters(constructor);
            }
        }
    }

    private static void parameters(Executable one) {
        Check.holds(one + " has few parameters", one.getParameterCount() <= MOST_PARAMETERS);
    }

    private static void words(List<String> lines) {
        Check.of("the words");
        Pattern bad = Pattern.compile("\\b(throw|throws|try|catch|finally|synchronized|assert|protected|instanceof"
                + "|double|float|Object|Thread|System\\.(?!arraycopy)\\w+|volatile|native|strictfp|var|yield)\\b"
                + "|->|::|\\w+Exact\\(|\\.(equals|hashCode|toString|getClass)\\(|\"|^package|@|static \\{");
        for (int i = 0; i < lines.size(); i++) {
            Matcher matcher = bad.matcher(code(lines.get(i)));
            Check.holds("line " + (i + 1) + ": " + lines.get(i), !matcher.find());
            for (char letter : lines.get(i).toCharArray()) {
                Check.holds("line " + (i + 1) + " has plain signs", letter >= ' ' && letter <= '~');
            }
            boolean isImport = lines.get(i).startsWith("import");
            Check.holds("only Arrays comes from the library",
                    !isImport || lines.get(i).equals("import java.util.Arrays;"));
        }
    }

    /** A line without its comment. */
    private static String code(String line) {
        String text = line.trim();
        if (text.startsWith("/*") || text.startsWith("*") || text.startsWith("//")) {
            return "";
        }
        return text.contains("//") ? text.substring(0, text.indexOf("//")) : text;
    }

    /** All calls of a run live in one room: rows are made with the object, and by no call. */
    private static void nothingNewInCalls(List<String> lines) {
        Check.of("what is made");
        boolean inConstructor = false;
        for (int i = 0; i < lines.size(); i++) {
            String line = lines.get(i);
            inConstructor = line.equals("    public GlassWires() {") || inConstructor && !line.equals("    }");
            boolean makes = code(line).matches(".*\\b(new|clone|copyOf|copyOfRange)\\b.*");
            boolean isField = code(line).startsWith("private final");
            Check.holds("line " + (i + 1) + ": " + line, !makes || isField || inConstructor);
        }
    }

    private static void shortMethods(List<String> lines) {
        Check.of("the length of methods");
        Pattern head = Pattern.compile("^( {4}| {8})(?! )[\\w\\[\\]<> ]+\\(.*\\) \\{$");
        for (int i = 0; i < lines.size(); i++) {
            Matcher matcher = head.matcher(lines.get(i));
            if (matcher.matches()) {
                int end = lines.subList(i, lines.size()).indexOf(matcher.group(1) + "}");
                Check.holds("line " + (i + 1) + ": " + lines.get(i), end > 0 && end <= MOST_LINES);
            }
        }
    }
}
