import java.lang.reflect.InvocationTargetException;
import java.lang.reflect.Method;

/** Calls a method by its name, on KeptParts and on Plain alike. */
final class Asker {
    private Asker() {
    }

    /** The answer as a text; an exception's name behind "throws."; nothing of a method without an answer. */
    static String ask(Object on, String name, int... numbers) {
        Method method = find(on.getClass(), name, numbers.length);
        Object[] values = new Object[numbers.length];
        for (int i = 0; i < numbers.length; i++) {
            values[i] = numbers[i];
        }
        try {
            Object answer = method.invoke(on, values);
            return answer == null ? "" : answer.toString();
        } catch (InvocationTargetException e) {
            return "throws." + e.getCause().getClass().getSimpleName();
        } catch (IllegalAccessException e) {
            throw new IllegalStateException(e);
        }
    }

    private static Method find(Class<?> type, String name, int count) {
        for (Method method : type.getDeclaredMethods()) {
            if (method.getName().equals(name) && method.getParameterCount() == count) {
                return method;
            }
        }
        throw new IllegalStateException("no such method: " + name);
    }
}
