import java.lang.reflect.InvocationTargetException;
import java.lang.reflect.Method;
import java.util.HashMap;
import java.util.Map;

/**
 * Runs of calls written as texts, so that a test reads as the document does: calls with " | " between,
 * what stands in '' is typed letter by letter, "40*days(1)" is forty calls.
 */
final class Run {
    private static final Map<Class<?>, Map<String, Method>> METHODS = new HashMap<>();

    private Run() {
    }

    /** What the last call of a run answers on this object. */
    static int on(Object x, String run) {
        int answer = 0;
        for (String part : run.split(" \\| ")) {
            answer = part.startsWith("'") ? typed(x, part.substring(1, part.length() - 1)) : repeated(x, part);
        }
        return answer;
    }

    /** A new object behind a run, which may be empty. */
    static WoundMedals anew(String run) {
        WoundMedals x = new WoundMedals();
        if (!run.isEmpty()) {
            on(x, run);
        }
        return x;
    }

    /** A run without its last call. */
    static String ahead(String run) {
        int last = run.lastIndexOf(" | ");
        return last < 0 ? "" : run.substring(0, last);
    }

    private static int typed(Object x, String text) {
        int answer = 0;
        for (int i = 0; i < text.length(); i++) {
            answer = call(x, "type", text.charAt(i));
        }
        return answer;
    }

    private static int repeated(Object x, String part) {
        int star = part.indexOf('*');
        int times = star < 0 ? 1 : Integer.parseInt(part.substring(0, star));
        String call = part.substring(star + 1);
        int open = call.indexOf('(');
        String inside = call.substring(open + 1, call.length() - 1);
        String[] words = inside.isEmpty() ? new String[0] : inside.split(", ?");
        long[] values = new long[words.length];
        for (int i = 0; i < words.length; i++) {
            values[i] = value(words[i]);
        }
        int answer = 0;
        for (int i = 0; i < times; i++) {
            answer = call(x, call.substring(0, open), values);
        }
        return answer;
    }

    private static long value(String word) {
        switch (word) {
            case "MIN": return Integer.MIN_VALUE;
            case "MAX": return Integer.MAX_VALUE;
            case "NONE": return WoundMedals.NONE;
            default: return Long.parseLong(word);
        }
    }

    static int call(Object x, String name, long... values) {
        Method method = method(x.getClass(), name);
        Class<?>[] types = method.getParameterTypes();
        if (types.length != values.length) {
            throw new IllegalArgumentException(name + " takes " + types.length + ", not " + values.length);
        }
        Object[] arguments = new Object[values.length];
        for (int i = 0; i < values.length; i++) {
            if (types[i] == int.class) {
                arguments[i] = Math.toIntExact(values[i]);
            } else {
                arguments[i] = values[i];
            }
        }
        try {
            return (Integer) method.invoke(x, arguments);
        } catch (InvocationTargetException e) {
            throw new IllegalStateException(name + " threw", e.getCause());
        } catch (IllegalAccessException e) {
            throw new IllegalStateException(e);
        }
    }

    private static Method method(Class<?> type, String name) {
        Map<String, Method> ofType = METHODS.computeIfAbsent(type, Run::methods);
        Method method = ofType.get(name);
        if (method == null) {
            throw new IllegalArgumentException("no call " + name);
        }
        return method;
    }

    private static Map<String, Method> methods(Class<?> type) {
        Map<String, Method> byName = new HashMap<>();
        for (Method method : type.getDeclaredMethods()) {
            byName.put(method.getName(), method);
        }
        return byName;
    }
}
