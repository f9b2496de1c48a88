import java.io.IOException;
import java.io.PrintWriter;
import java.io.StringWriter;
import java.lang.reflect.Field;
import java.lang.reflect.Method;
import java.lang.reflect.Modifier;
import java.nio.file.Files;
import java.nio.file.Path;
import java.util.ArrayList;
import java.util.Arrays;
import java.util.HashMap;
import java.util.HashSet;
import java.util.List;
import java.util.Map;
import java.util.Set;
import java.util.regex.Matcher;
import java.util.regex.Pattern;
import java.util.spi.ToolProvider;

/** Those rules of LANGUAGE.md that can be seen in the class's text, or in what javac makes of it. */
public final class LanguageTest {
    private static final String SOURCE = "src/main/java/TownLamps.java";
    private static final List<String> FORBIDDEN_WORDS = List.of(
        "throw", "throws", "try", "catch", "finally", "synchronized", "assert", "import", "package", "hashCode", "toString", "Random", "Thread", "File", "NaN");
    private static final List<String> FORBIDDEN_SIGNS = List.of("->", "::", "Exact", "System.out");
    /** What rule 4 lists; the class needs no list and no StringBuilder, so theirs is left out. */
    private static final Pattern LIBRARY = Pattern.compile("java/lang/Object\\.\"<init>\""
        + "|java/lang/String\\.(length|charAt|isEmpty|equals|indexOf|substring|toCharArray|\"<init>\")"
        + "|java/lang/(Integer|Long|Math)\\.(?!\\w*Exact)\\w+"
        + "|java/lang/System\\.arraycopy|java/util/Arrays\\.(copyOf|copyOfRange|fill)");
    private static final Set<Class<?>> CONSTANTS = Set.of(
        int.class, long.class, boolean.class, char.class, String.class, int[].class, long[].class, char[].class, byte[].class);
    private static final int CALLS_DEEP = 8;
    private static final int LINES_OF_A_METHOD = 60;
    private static final int FIELDS_OF_A_CLASS = 20;
    private static final int CLASSES = 12;

    /** A method as javap tells it. */
    private static final class Told {
        final String name;
        final List<String> calls = new ArrayList<>();
        int firstLine = Integer.MAX_VALUE;
        int lastLine = 0;

        Told(String name) {
            this.name = name;
        }
    }

    private static final Map<String, Told> methods = new HashMap<>();

    public static void main(String[] args) throws IOException {
        String source = Files.readString(Path.of(SOURCE));
        signs(source);
        words(source.replaceAll("(?s)/\\*.*?\\*/", " ").replaceAll("//[^\n]*", " "));
        List<Class<?>> classes = new ArrayList<>(List.of(TownLamps.class.getDeclaredClasses()));
        classes.add(TownLamps.class);
        Due.holds("some twelve classes", classes.size() <= CLASSES);
        for (Class<?> c : classes) {
            fields(c);
            parameters(c);
            code(c.getName(), javap(c));
        }
        Due.holds("javap told the methods", methods.size() > 100);
        for (Told m : methods.values()) {
            Due.holds(m.name + " is short", m.lastLine - m.firstLine < LINES_OF_A_METHOD);
            int deep = deep(m.name, new HashSet<>());
            Due.holds(m.name + " goes " + deep + " calls deep", deep <= CALLS_DEEP);
        }
        Due.end();
    }

    // ---- the text

    private static void signs(String source) {
        for (int i = 0; i < source.length(); i++) {
            if (source.charAt(i) > 126) {
                Due.holds("signs of the source are plain, at " + i, false);
            }
        }
    }

    private static void words(String code) {
        for (String word : FORBIDDEN_WORDS) {
            Due.holds("no " + word, !Pattern.compile("\\b" + word + "\\b").matcher(code).find());
        }
        for (String sign : FORBIDDEN_SIGNS) {
            Due.holds("no " + sign, !code.contains(sign));
        }
        // javac puts a library's constant in as a number, so that only the text tells it
        Matcher named = Pattern.compile("\\b(Integer|Long|Short|Byte|Character|Float|Double|Math|System)\\.(\\w+)(\\(?)").matcher(code);
        while (named.find()) {
            Due.holds(named.group() + " is a function, no constant", named.group(3).equals("("));
        }
    }

    // ---- the classes

    private static void fields(Class<?> c) {
        long own = Arrays.stream(c.getDeclaredFields()).filter(f -> !Modifier.isStatic(f.getModifiers())).count();
        Due.holds(c + " has some twenty fields", own <= FIELDS_OF_A_CLASS);
        for (Field f : c.getDeclaredFields()) {
            if (Modifier.isStatic(f.getModifiers())) {
                Due.holds(f + " is a constant", Modifier.isFinal(f.getModifiers()) && CONSTANTS.contains(f.getType()));
            } else {
                Due.holds(f + " is of a type that is listed", isListed(f.getType()));
            }
        }
    }

    private static boolean isListed(Class<?> type) {
        Class<?> of = type.isArray() ? type.getComponentType() : type;
        if (of.isArray()) {
            of = of.getComponentType();
            return of.isPrimitive() && of != boolean.class;
        }
        return of.isPrimitive() || of == String.class || of.getName().startsWith("TownLamps$");
    }

    private static void parameters(Class<?> c) {
        for (Method m : c.getDeclaredMethods()) {
            Due.holds(m + " has seven parameters at most", m.getParameterCount() <= 7);
        }
    }

    // ---- what javac makes of them

    private static List<String> javap(Class<?> c) {
        StringWriter out = new StringWriter();
        PrintWriter printer = new PrintWriter(out);
        String classes = Path.of(TownLamps.class.getProtectionDomain().getCodeSource().getLocation().getPath()).toString();
        ToolProvider tool = ToolProvider.findFirst("javap").orElseThrow();
        Due.is("javap of " + c, tool.run(printer, printer, "-p", "-c", "-s", "-l", "-cp", classes, c.getName()), 0);
        return out.toString().lines().toList();
    }

    private static void code(String className, List<String> lines) {
        Pattern head = Pattern.compile("  (?:\\S+ )*([\\w$]+)\\(.*\\);");
        Pattern instruction = Pattern.compile(" +\\d+: (\\w+)(?:.*// (?:Interface)?Method (\\S+))?.*");
        Pattern line = Pattern.compile(" +line (\\d+): \\d+");
        String name = "";
        Told m = new Told("none");
        for (String text : lines) {
            Matcher is = head.matcher(text);
            if (is.matches()) {
                name = is.group(1).equals(className) ? "\"<init>\"" : is.group(1);
            } else if (text.equals("  static {};")) {
                name = "\"<clinit>\"";
            } else if (text.startsWith("    descriptor: ") && text.contains("(")) {
                m = new Told(className + "." + name + ":" + text.substring("    descriptor: ".length()));
                methods.put(m.name, m);
            } else if ((is = instruction.matcher(text)).matches()) {
                instruction(m, name.startsWith("\"<"), is.group(1));
                if (is.group(2) != null) {
                    call(m, className, is.group(2));
                }
            } else if ((is = line.matcher(text)).matches()) {
                m.firstLine = Math.min(m.firstLine, Integer.parseInt(is.group(1)));
                m.lastLine = Math.max(m.lastLine, Integer.parseInt(is.group(1)));
            } else {
                Due.holds("no exception is caught in " + m.name, !text.contains("Exception table"));
            }
        }
    }

    private static void instruction(Told m, boolean isMaker, String code) {
        Due.holds("no " + code + " in " + m.name, !List.of("athrow", "invokedynamic", "monitorenter").contains(code));
        // more than LANGUAGE.md asks: all calls of a run share one room, so they make nothing
        boolean makes = code.equals("new") || code.endsWith("newarray");
        Due.holds("nothing is made in " + m.name, isMaker || !makes);
    }

    private static void call(Told m, String className, String called) {
        String whole = called.substring(0, called.indexOf(':')).contains(".") ? called : className + "." + called;
        if (whole.startsWith("TownLamps")) {
            m.calls.add(whole);
        } else {
            Due.holds(m.name + " calls " + whole, LIBRARY.matcher(whole.substring(0, whole.indexOf(':'))).matches());
        }
    }

    /** How many calls stand open at once from a method on, it among them; one that is open already is recursion. */
    private static int deep(String name, Set<String> open) {
        Told m = methods.get(name);
        Due.holds("a method " + name + " is there", m != null);
        int deepest = 0;
        if (m == null || !open.add(name)) {
            return 0;
        }
        for (String called : m.calls) {
            deepest = Math.max(deepest, deep(called, open));
        }
        open.remove(name);
        return 1 + deepest;
    }
}
