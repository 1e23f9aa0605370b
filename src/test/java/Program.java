import java.lang.reflect.InvocationTargetException;
import java.lang.reflect.Method;
import java.util.HashMap;
import java.util.Map;

/** Calls of a NoteHouse by name, so that a test can tell a call as data. */
final class Program {
    private static final Map<String, Method> METHODS = new HashMap<>();

    static {
        for (Method m : NoteHouse.class.getDeclaredMethods()) {
            if (java.lang.reflect.Modifier.isPublic(m.getModifiers())) {
                METHODS.put(m.getName(), m);
            }
        }
    }

    private final NoteHouse house = new NoteHouse();

    static int arity(String name) {
        return METHODS.get(name).getParameterCount();
    }

    static Iterable<String> names() {
        return new java.util.TreeSet<>(METHODS.keySet());
    }

    int call(String name, int... a) {
        Object[] boxed = new Object[a.length];
        for (int i = 0; i < a.length; i++) {
            boxed[i] = a[i];
        }
        try {
            return (Integer) METHODS.get(name).invoke(house, boxed);
        } catch (IllegalAccessException e) {
            throw new IllegalStateException(e);
        } catch (InvocationTargetException e) {
            throw new IllegalStateException(name + java.util.Arrays.toString(a), e.getCause());
        }
    }

    static String told(String name, int... a) {
        String s = java.util.Arrays.toString(a);
        return name + "(" + s.substring(1, s.length() - 1) + ")";
    }
}
