import java.lang.reflect.InvocationTargetException;
import java.lang.reflect.Method;
import java.util.HashMap;
import java.util.Map;

/** Calls a method by its name, on the class or on the oracle. */
final class Calls {
    private static final Map<String, Method> KNOWN = new HashMap<>();

    private Calls() {
    }

    static long of(Object target, String call, int... a) {
        String key = target.getClass().getName() + "." + call + "/" + a.length;
        Method method = KNOWN.computeIfAbsent(key, k -> find(target.getClass(), call, a.length));
        Object[] boxed = new Object[a.length];
        for (int i = 0; i < a.length; i++) {
            boxed[i] = a[i];
        }
        try {
            return ((Number) method.invoke(target, boxed)).longValue();
        } catch (IllegalAccessException | InvocationTargetException e) {
            throw new IllegalStateException(call, e);
        }
    }

    private static Method find(Class<?> type, String call, int parameters) {
        for (Method m : type.getDeclaredMethods()) {
            boolean isPrivate = java.lang.reflect.Modifier.isPrivate(m.getModifiers());
            if (m.getName().equals(call) && m.getParameterCount() == parameters && !isPrivate) {
                m.setAccessible(true);
                return m;
            }
        }
        throw new IllegalStateException("no " + call);
    }
}
