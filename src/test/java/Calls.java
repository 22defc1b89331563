import java.lang.reflect.InvocationTargetException;
import java.lang.reflect.Method;

/** Makes calls that are written as texts, so that a test reads like a run of the document. */
final class Calls {
    private Calls() {
    }

    /** What a call such as "put(0, 5)" answers: a number, "done" for a void one, or "throws." and the exception. */
    static String answer(Object grove, String call) {
        int open = call.indexOf('(');
        Method method = method(grove.getClass(), call.substring(0, open).trim());
        String inside = call.substring(open + 1, call.lastIndexOf(')')).trim();
        String[] words = inside.isEmpty() ? new String[0] : inside.split("\\s*,\\s*");
        try {
            Object answer = method.invoke(grove, arguments(method, words));
            return answer == null ? "done" : answer.toString();
        } catch (InvocationTargetException e) {
            return "throws." + e.getCause().getClass().getSimpleName();
        } catch (IllegalAccessException e) {
            throw new IllegalStateException(e);
        }
    }

    private static Method method(Class<?> type, String name) {
        for (Method method : type.getDeclaredMethods()) {
            if (method.getName().equals(name)) {
                method.setAccessible(true);
                return method;
            }
        }
        throw new IllegalArgumentException("no method " + name);
    }

    private static Object[] arguments(Method method, String[] words) {
        Class<?>[] types = method.getParameterTypes();
        if (types.length != words.length) {
            throw new IllegalArgumentException(method.getName() + " takes " + types.length + " arguments");
        }
        Object[] arguments = new Object[words.length];
        for (int i = 0; i < words.length; i++) {
            if (types[i] == boolean.class) {
                arguments[i] = Boolean.valueOf(words[i]);
            } else {
                arguments[i] = Integer.valueOf(words[i]);
            }
        }
        return arguments;
    }
}
