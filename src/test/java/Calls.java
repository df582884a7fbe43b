import java.lang.reflect.Method;

/** Calls by their names, on a PigLine or on its Model alike. */
final class Calls {
    private Calls() { }

    /** Where the call wants a boolean, 1 is true. */
    static long answer(Object on, String name, int... args) {
        for (Method method : on.getClass().getDeclaredMethods()) {
            if (method.getName().equals(name) && method.getParameterCount() == args.length) {
                return answer(on, method, args);
            }
        }
        throw new IllegalStateException("no method " + name);
    }

    private static long answer(Object on, Method method, int[] args) {
        Object[] given = new Object[args.length];
        for (int i = 0; i < args.length; i++) {
            given[i] = method.getParameterTypes()[i] == boolean.class ? (Object) (args[i] == 1) : args[i];
        }
        try {
            return ((Number) method.invoke(on, given)).longValue();
        } catch (ReflectiveOperationException thrown) {
            throw new IllegalStateException(method + " threw", thrown);
        }
    }
}
