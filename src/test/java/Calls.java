import java.lang.reflect.InvocationTargetException;
import java.lang.reflect.Method;
import java.util.HashMap;
import java.util.Map;

/** Calls by their names, of a BallMinder and of a Plainly alike. */
final class Calls {
    private static final Map<String, Method> KNOWN = new HashMap<>();

    private Calls() {
    }

    static long ask(Object b, String name, int... numbers) {
        Object[] given = new Object[numbers.length];
        for (int k = 0; k < numbers.length; k++) {
            given[k] = numbers[k];
        }
        try {
            return ((Number) method(b, name).invoke(b, given)).longValue();
        } catch (InvocationTargetException thrown) {
            throw new IllegalStateException(told(name, numbers) + " threw", thrown.getCause());
        } catch (IllegalAccessException closed) {
            throw new IllegalStateException(closed);
        }
    }

    static int numbersOf(String name) {
        for (Method m : BallMinder.class.getDeclaredMethods()) {
            if (m.getName().equals(name)) {
                return m.getParameterCount();
            }
        }
        throw new IllegalArgumentException("no call " + name);
    }

    static String told(String name, int... numbers) {
        StringBuilder told = new StringBuilder(name).append('(');
        for (int k = 0; k < numbers.length; k++) {
            told.append(k == 0 ? "" : ", ").append(numbers[k]);
        }
        return told.append(')').toString();
    }

    private static Method method(Object b, String name) {
        return KNOWN.computeIfAbsent(b.getClass().getName() + "." + name, key -> found(b.getClass(), name));
    }

    private static Method found(Class<?> of, String name) {
        for (Method m : of.getDeclaredMethods()) {
            if (m.getName().equals(name) && isOfInts(m)) {
                m.setAccessible(true);
                return m;
            }
        }
        throw new IllegalArgumentException("no call " + name);
    }

    private static boolean isOfInts(Method m) {
        for (Class<?> c : m.getParameterTypes()) {
            if (c != int.class) {
                return false;
            }
        }
        return true;
    }
}
