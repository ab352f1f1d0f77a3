import java.lang.reflect.InvocationTargetException;
import java.lang.reflect.Method;
import java.lang.reflect.Modifier;
import java.util.ArrayList;
import java.util.HashMap;
import java.util.List;
import java.util.Map;

/**
 * Calls of DockyardSlots as texts: a method's name and its arguments, as "addLane 3 true". Several calls are parted
 * by ";", and " *4" behind a call makes it four times. A char is written as its sign, or as "#" and its number.
 */
final class Script {
    private static final Map<String, Method> YARD_CALLS = openMethods(DockyardSlots.class);
    private static final Map<String, Method> MODEL_CALLS = openMethods(YardModel.class);

    private Script() {
    }

    private static Map<String, Method> openMethods(Class<?> type) {
        Map<String, Method> result = new HashMap<>();
        for (Method method : type.getDeclaredMethods()) {
            if (!Modifier.isPrivate(method.getModifiers())) {
                result.put(method.getName(), method);
            }
        }
        return result;
    }

    /** Returns a new object on which these calls were made, none of which may be refused. */
    static DockyardSlots yardAfter(String calls) {
        DockyardSlots x = new DockyardSlots();
        for (String call : split(calls)) {
            String got = answer(x, call);
            if (got.startsWith("throws.")) {
                throw new IllegalStateException(call + " answered " + got + " in: " + calls);
            }
        }
        return x;
    }

    /** Returns the answer that the model gives to a call behind these calls. */
    static String modelAnswer(String calls, String call) {
        YardModel model = new YardModel();
        for (String each : split(calls)) {
            invoke(MODEL_CALLS, model, each);
        }
        return invoke(MODEL_CALLS, model, call);
    }

    static List<String> split(String calls) {
        List<String> result = new ArrayList<>();
        for (String part : calls.split(";")) {
            String call = part.trim();
            int star = call.indexOf('*');
            int times = star < 0 ? 1 : Integer.parseInt(call.substring(star + 1).trim());
            for (int i = 0; i < times && !call.isEmpty(); i++) {
                result.add(star < 0 ? call : call.substring(0, star).trim());
            }
        }
        return result;
    }

    /** Makes a call; returns its answer as a text, "throws.X" if it threw the exception X. */
    static String answer(DockyardSlots x, String call) {
        return invoke(YARD_CALLS, x, call);
    }

    private static String invoke(Map<String, Method> methods, Object target, String call) {
        String[] words = call.split(" +");
        Method method = methods.get(words[0]);
        if (method == null || method.getParameterCount() != words.length - 1) {
            throw new IllegalStateException("there is no such call: " + call);
        }
        Class<?>[] types = method.getParameterTypes();
        Object[] arguments = new Object[types.length];
        for (int i = 0; i < types.length; i++) {
            arguments[i] = argument(types[i], words[i + 1]);
        }
        try {
            return String.valueOf(method.invoke(target, arguments));
        } catch (InvocationTargetException e) {
            return "throws." + e.getCause().getClass().getSimpleName();
        } catch (IllegalAccessException e) {
            throw new IllegalStateException(e);
        }
    }

    private static Object argument(Class<?> type, String word) {
        if (type == int.class) {
            return Integer.parseInt(word);
        }
        if (type == boolean.class) {
            return Boolean.parseBoolean(word);
        }
        return word.charAt(0) == '#' ? (char) Integer.parseInt(word.substring(1)) : word.charAt(0);
    }
}
