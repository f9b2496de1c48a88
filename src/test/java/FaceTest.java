import java.lang.reflect.Constructor;
import java.lang.reflect.Field;
import java.lang.reflect.Method;
import java.lang.reflect.Modifier;
import java.util.HashSet;
import java.util.List;
import java.util.Set;

/** The public face, as the document and LANGUAGE.md's first rule tell it. */
public final class FaceTest {
    private static final List<String> METHODS = List.of(
        "cabinet(int,int)", "cabinetTold(int,int)", "shift(int,int)", "joint(int,int)", "jointTold(int,int)",
        "lamp(int,int,int)", "told(int,int)", "as(int,int)", "change(int,int)", "feast(int)", "breaks(int,int)",
        "mend(int,int)", "hours(int)", "bill(int)", "light(int)", "tooDark()", "feed(int,int,int)", "trim(int)",
        "text()", "textTold(int,int)", "why(int)", "dark(int,boolean)", "blame(int,int)", "blames()", "choose(int)",
        "clear()", "guess(int)", "stop(int)", "home()", "round(int,int)", "together(int,int,int)",
        "sheet(int,int,int)", "mark(int,int,int)", "fits(int,int)", "copy(int,int,int,int,int)", "lay(int,int,int)",
        "ask(int,int)", "item(int,int)", "rest(int,int)", "tell(int)", "check(int)", "keep()", "back()", "count(int)");
    private static final List<String> CONSTANTS =
        List.of("BAD", "NO", "FULL", "NONE", "NOTHING", "KIND", "INDEX", "SIZE");

    public static void main(String[] args) {
        constants();
        members();
        nestedMethods();
        Due.end();
    }

    private static void constants() {
        Due.is("BAD", TownLamps.BAD, -1000000001);
        Due.is("NO", TownLamps.NO, -1000000002);
        Due.is("FULL", TownLamps.FULL, -1000000003);
        Due.is("NONE", TownLamps.NONE, -1000000005);
        Due.is("NOTHING", TownLamps.NOTHING, -1000000011);
        Due.is("KIND", TownLamps.KIND, -1000000012);
        Due.is("INDEX", TownLamps.INDEX, -1000000013);
        Due.is("SIZE", TownLamps.SIZE, -1000000014);
    }

    private static void members() {
        Class<?> c = TownLamps.class;
        Due.holds("the class is public and final", Modifier.isPublic(c.getModifiers()) && Modifier.isFinal(c.getModifiers()));
        Set<String> seen = new HashSet<>();
        for (Method m : c.getDeclaredMethods()) {
            if (m.isSynthetic()) {
                continue;
            }
            if (Modifier.isPrivate(m.getModifiers())) {
                Due.holds("private " + m.getName() + " bears no public name", !isPublicName(m.getName()));
            } else {
                seen.add(signature(m));
                Due.holds(m + " is public, answers int, is no static", Modifier.isPublic(m.getModifiers())
                    && m.getReturnType() == int.class && !Modifier.isStatic(m.getModifiers()));
            }
        }
        Due.same("methods", sorted(seen), sorted(new HashSet<>(METHODS)));
        Set<String> fields = new HashSet<>();
        for (Field f : c.getDeclaredFields()) {
            if (!Modifier.isPrivate(f.getModifiers()) && !f.isSynthetic()) {
                fields.add(f.getName());
                Due.holds(f + " is a public constant", Modifier.isPublic(f.getModifiers())
                    && Modifier.isStatic(f.getModifiers()) && Modifier.isFinal(f.getModifiers()));
            }
        }
        Due.same("constants", sorted(fields), sorted(new HashSet<>(CONSTANTS)));
        Constructor<?>[] constructors = c.getDeclaredConstructors();
        Due.holds("one public constructor", constructors.length == 1
            && Modifier.isPublic(constructors[0].getModifiers()) && constructors[0].getParameterCount() == 0);
    }

    private static void nestedMethods() {
        for (Class<?> c : TownLamps.class.getDeclaredClasses()) {
            Due.holds(c + " is static and not public", Modifier.isStatic(c.getModifiers())
                && !Modifier.isPublic(c.getModifiers()) && !Modifier.isProtected(c.getModifiers()));
            for (Method m : c.getDeclaredMethods()) {
                Due.holds(m + " bears no public name", m.isSynthetic() || !isPublicName(m.getName()));
            }
        }
    }

    private static boolean isPublicName(String name) {
        return METHODS.stream().anyMatch(m -> m.startsWith(name + "("));
    }

    private static String signature(Method m) {
        StringBuilder s = new StringBuilder(m.getName()).append('(');
        for (Class<?> p : m.getParameterTypes()) {
            s.append(s.charAt(s.length() - 1) == '(' ? "" : ",").append(p.getName());
        }
        return s.append(')').toString();
    }

    private static String sorted(Set<String> set) {
        return set.stream().sorted().toList().toString();
    }
}
