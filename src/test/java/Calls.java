import java.lang.reflect.InvocationTargetException;
import java.lang.reflect.Method;
import java.util.Arrays;
import java.util.HashMap;
import java.util.Map;

/** Calls by their text, such as "vote(1, 0)", on anything with the document's methods. */
final class Calls {
    private static final Map<Class<?>, Map<String, Method>> METHODS = new HashMap<>();

    private Calls() {
    }

    /** The answer as a text: a number, true or false, or throws. and the name of the exception. */
    static String answer(Object target, String call) {
        int open = call.indexOf('(');
        int close = call.indexOf(')');
        String inner = call.substring(open + 1, close).trim();
        String[] parts = inner.isEmpty() ? new String[0] : inner.split(",");
        Object[] arguments = new Object[parts.length];
        for (int i = 0; i < parts.length; i++) {
            arguments[i] = Integer.valueOf(parts[i].trim());
        }
        return answer(target, call.substring(0, open).trim(), arguments);
    }

    private static String answer(Object target, String name, Object[] arguments) {
        try {
            return String.valueOf(method(target.getClass(), name).invoke(target, arguments));
        } catch (InvocationTargetException e) {
            return "throws." + e.getCause().getClass().getSimpleName();
        } catch (IllegalAccessException | IllegalArgumentException e) {
            throw new IllegalStateException("not a call: " + name + Arrays.toString(arguments), e);
        }
    }

    private static Method method(Class<?> type, String name) {
        Map<String, Method> known = METHODS.computeIfAbsent(type, Calls::methods);
        Method method = known.get(name);
        if (method == null) {
            throw new IllegalStateException("no such method: " + name);
        }
        return method;
    }

    private static Map<String, Method> methods(Class<?> type) {
        Map<String, Method> methods = new HashMap<>();
        for (Method method : type.getDeclaredMethods()) {
            if (java.lang.reflect.Modifier.isPublic(method.getModifiers())) {
                method.setAccessible(true);
                methods.put(method.getName(), method);
            }
        }
        return methods;
    }
}
