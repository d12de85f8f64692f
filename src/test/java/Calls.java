import java.lang.reflect.InvocationTargetException;
import java.lang.reflect.Method;

/** Calls by their names, so that the class and the plain reading can be asked the same. */
final class Calls {
    private Calls() {
    }

    /** The answer, or the name of what was thrown behind "throws.". */
    static String answer(Object object, String name, Object... arguments) {
        try {
            return String.valueOf(named(object.getClass(), name).invoke(object, arguments));
        } catch (InvocationTargetException thrown) {
            return "throws." + thrown.getCause().getClass().getSimpleName();
        } catch (IllegalAccessException hidden) {
            throw new IllegalStateException(hidden);
        }
    }

    private static Method named(Class<?> type, String name) {
        for (Method method : type.getDeclaredMethods()) {
            if (method.getName().equals(name)) {
                return method;
            }
        }
        throw new IllegalStateException(name);
    }
}
