import java.lang.reflect.InvocationTargetException;
import java.lang.reflect.Method;
import java.lang.reflect.Modifier;
import java.util.HashMap;
import java.util.Map;

/**
 * Makes calls that are told as they would be written: "swap(0, 1)". The words most and least stand for the greatest
 * and the least number of an argument's type. What is asked may be the class or the Model, whose calls bear the same
 * names.
 */
final class Calls {
    private static final Map<Class<?>, Map<String, Method>> known = new HashMap<>();

    private Calls() {
    }

    static String name(String call) {
        return call.substring(0, call.indexOf('('));
    }

    static long answer(Object asked, String call) {
        Method method = methods(asked.getClass()).get(name(call));
        if (method == null) {
            throw new IllegalArgumentException("no such call: " + call);
        }
        String inside = call.substring(call.indexOf('(') + 1, call.lastIndexOf(')')).trim();
        String[] words = inside.isEmpty() ? new String[0] : inside.split("\\s*,\\s*");
        Class<?>[] types = method.getParameterTypes();
        if (words.length != types.length) {
            throw new IllegalArgumentException("not so many arguments: " + call);
        }
        Object[] values = new Object[words.length];
        for (int i = 0; i < words.length; i++) {
            values[i] = value(words[i], types[i]);
        }
        return made(asked, method, values, call);
    }

    private static long made(Object asked, Method method, Object[] values, String call) {
        try {
            return ((Number) method.invoke(asked, values)).longValue();
        } catch (InvocationTargetException e) {
            throw new IllegalStateException(call + " threw", e.getCause());
        } catch (IllegalAccessException e) {
            throw new IllegalStateException(e);
        }
    }

    private static Object value(String word, Class<?> type) {
        if (type == boolean.class) {
            return word.equals("true");
        }
        boolean isLong = type == long.class;
        if (word.equals("most")) {
            return isLong ? (Object) Long.MAX_VALUE : (Object) Integer.MAX_VALUE;
        }
        if (word.equals("least")) {
            return isLong ? (Object) Long.MIN_VALUE : (Object) Integer.MIN_VALUE;
        }
        return isLong ? (Object) Long.valueOf(word) : (Object) Integer.valueOf(word);
    }

    private static Map<String, Method> methods(Class<?> type) {
        return known.computeIfAbsent(type, t -> {
            Map<String, Method> found = new HashMap<>();
            for (Method method : t.getDeclaredMethods()) {
                if (!Modifier.isPrivate(method.getModifiers()) && !Modifier.isStatic(method.getModifiers())) {
                    method.setAccessible(true);
                    found.put(method.getName(), method);
                }
            }
            return found;
        });
    }
}
