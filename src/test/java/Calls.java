import java.lang.reflect.InvocationTargetException;
import java.lang.reflect.Method;
import java.lang.reflect.Modifier;
import java.util.Map;
import java.util.TreeMap;

/** Makes calls that are written as texts, such as "think(0, 7)". */
final class Calls {
    private static final Map<String, Method> METHODS = new TreeMap<>();

    static {
        for (Method m : BroadcastCarousel.class.getDeclaredMethods()) {
            if (Modifier.isPublic(m.getModifiers())) {
                METHODS.put(m.getName(), m);
            }
        }
    }

    private Calls() {
    }

    /** The answer of a call, or throws. and the name of the exception that it throws. */
    static String outcome(BroadcastCarousel x, String call) {
        int open = call.indexOf('(');
        Method method = METHODS.get(call.substring(0, open));
        String inside = call.substring(open + 1, call.indexOf(')'));
        String[] words = inside.isBlank() ? new String[0] : inside.split(",");
        Object[] arguments = new Object[words.length];
        for (int n = 0; n < words.length; n++) {
            arguments[n] = number(words[n].strip());
        }
        try {
            return String.valueOf(method.invoke(x, arguments));
        } catch (InvocationTargetException e) {
            return "throws." + e.getCause().getClass().getSimpleName();
        } catch (IllegalAccessException e) {
            throw new AssertionError(e);
        }
    }

    private static int number(String word) {
        switch (word) {
            case "MIN":
                return Integer.MIN_VALUE;
            case "MAX":
                return Integer.MAX_VALUE;
            default:
                return Integer.decode(word);
        }
    }

    /** Makes calls, parted by semicolons, of which none may be refused. */
    static void make(BroadcastCarousel x, String calls) {
        for (String call : calls.split(";")) {
            if (!call.isBlank()) {
                String outcome = outcome(x, call.strip());
                if (outcome.startsWith("throws.")) {
                    throw new AssertionError(call + " " + outcome);
                }
            }
        }
    }
}
