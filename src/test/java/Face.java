import java.lang.reflect.Method;
import java.lang.reflect.Modifier;
import java.util.HashMap;
import java.util.Map;

/** The document's calls by their names, of the class and of the model alike. */
final class Face {
    private static final Map<Class<?>, Map<String, Method>> KNOWN = new HashMap<>();

    private final Object one;
    private final Map<String, Method> calls;

    private Face(Object one) {
        this.one = one;
        calls = KNOWN.computeIfAbsent(one.getClass(), Face::callsOf);
    }

    static Face of(Object one) {
        return new Face(one);
    }

    private static Map<String, Method> callsOf(Class<?> c) {
        Map<String, Method> found = new HashMap<>();
        for (Method m : RateTree.class.getDeclaredMethods()) {
            if (Modifier.isPublic(m.getModifiers())) {
                try {
                    found.put(m.getName(), c.getDeclaredMethod(m.getName(), m.getParameterTypes()));
                } catch (NoSuchMethodException e) {
                    throw new IllegalStateException(c + " has no " + m, e);
                }
            }
        }
        return found;
    }

    long call(String name, Object... args) {
        try {
            return ((Number) calls.get(name).invoke(one, args)).longValue();
        } catch (ReflectiveOperationException e) {
            throw new IllegalStateException(name + java.util.Arrays.toString(args), e);
        }
    }
}
