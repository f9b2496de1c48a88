import java.lang.reflect.InvocationTargetException;
import java.lang.reflect.Method;
import java.util.HashMap;
import java.util.Map;

/** Makes a call that is written as it stands in a program, such as "cabinet(0, 1806)". */
final class Calls {
    private static final Map<String, Method> METHODS = new HashMap<>();

    static {
        for (Method m : TownLamps.class.getMethods()) {
            if (m.getDeclaringClass() == TownLamps.class) {
                METHODS.put(m.getName(), m);
            }
        }
    }

    private Calls() {
    }

    static Iterable<Method> all() {
        return METHODS.values();
    }

    static int make(TownLamps x, String call) {
        int open = call.indexOf('(');
        Method m = METHODS.get(call.substring(0, open));
        String inside = call.substring(open + 1, call.length() - 1);
        String[] words = inside.isEmpty() ? new String[0] : inside.split(", ");
        Object[] arguments = new Object[words.length];
        for (int i = 0; i < words.length; i++) {
            arguments[i] = argument(words[i]);
        }
        return make(x, m, arguments);
    }

    static int make(TownLamps x, Method m, Object... arguments) {
        try {
            return (Integer) m.invoke(x, arguments);
        } catch (InvocationTargetException e) {
            throw new IllegalStateException(m.getName() + java.util.Arrays.toString(arguments) + " threw", e.getCause());
        } catch (IllegalAccessException e) {
            throw new IllegalStateException(e);
        }
    }

    private static Object argument(String word) {
        switch (word) {
            case "true": return true;
            case "false": return false;
            case "MIN": return Integer.MIN_VALUE;
            case "MAX": return Integer.MAX_VALUE;
            case "NONE": return TownLamps.NONE;
            default: return word.startsWith("0x") ? Integer.parseUnsignedInt(word.substring(2), 16) : Integer.valueOf(word);
        }
    }
}
