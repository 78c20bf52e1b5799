import java.lang.reflect.InvocationTargetException;
import java.lang.reflect.Method;
import java.util.Arrays;

/** Calls by name, so that a test can tell them as rows: of the desk, or of the model. */
final class Calls {
    private Calls() { }

    static Method method(Class<?> type, String name) {
        for (Method method : type.getDeclaredMethods()) {
            if (method.getName().equals(name)) {
                return method;
            }
        }
        throw new AssertionError("no method " + name);
    }

    /** The answer of the call as a text (null for a call that has none), or its exception's name. */
    static String outcome(Object target, String name, int... arguments) {
        try {
            Object[] values = Arrays.stream(arguments).boxed().toArray();
            return String.valueOf(method(target.getClass(), name).invoke(target, values));
        } catch (InvocationTargetException thrown) {
            return thrown.getCause().getClass().getSimpleName();
        } catch (IllegalAccessException denied) {
            throw new AssertionError(denied);
        }
    }

    static String text(String name, int... arguments) {
        return name + Arrays.toString(arguments).replace('[', '(').replace(']', ')');
    }
}
