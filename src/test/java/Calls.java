import java.lang.reflect.Method;
import java.util.HashMap;
import java.util.Map;

/** Makes calls that are written as in Java, on one object, with numbers, characters, truths and kept answers. */
final class Calls {
    private final Desk desk;
    private final Map<String, String> kept = new HashMap<>();

    Calls(Desk desk) {
        this.desk = desk;
    }

    /** The answer as it is written in Java; word(0, 1) is the form of a call. */
    String make(String call) {
        int open = call.indexOf('(');
        String inside = call.substring(open + 1, call.lastIndexOf(')'));
        String[] written = inside.isEmpty() ? new String[0] : inside.split(", ");
        Method method = methodOf(call.substring(0, open), written.length);
        Class<?>[] types = method.getParameterTypes();
        Object[] arguments = new Object[written.length];
        for (int i = 0; i < written.length; i++) {
            arguments[i] = argument(types[i], kept.getOrDefault(written[i], written[i]));
        }
        try {
            return "" + method.invoke(desk, arguments);
        } catch (ReflectiveOperationException e) {
            throw new IllegalStateException(call, e);
        }
    }

    /** Later calls may use the name for the answer. */
    void keep(String name, String answer) {
        kept.put(name, answer);
    }

    /** Only what ExpressionDesk has, and not what Desk has beside it. */
    private static Method methodOf(String name, int parameters) {
        for (Method own : ExpressionDesk.class.getDeclaredMethods()) {
            if (own.getName().equals(name) && own.getParameterCount() == parameters) {
                try {
                    return Desk.class.getDeclaredMethod(name, own.getParameterTypes());
                } catch (NoSuchMethodException e) {
                    throw new IllegalStateException(name, e);
                }
            }
        }
        throw new IllegalStateException("there is no call " + name + " with " + parameters + " arguments");
    }

    private static Object argument(Class<?> type, String written) {
        if (type == boolean.class) {
            if (!written.equals("true") && !written.equals("false")) {
                throw new IllegalStateException(written + " is no truth");
            }
            return written.equals("true");
        }
        long number = written.charAt(0) == '\'' ? written.charAt(1)
                : Long.decode(written.endsWith("L") ? written.substring(0, written.length() - 1) : written);
        if (type == long.class) {
            return number;
        }
        return Math.toIntExact(number);
    }
}
