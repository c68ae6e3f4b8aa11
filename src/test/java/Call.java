import java.lang.reflect.InvocationTargetException;
import java.lang.reflect.Method;
import java.util.HashMap;
import java.util.Map;

/** Makes a call that is told as a text, as "row(0, 2, 40)"; MIN and MAX are the least and the greatest int. */
final class Call {
    private static final Map<String, Method> METHODS = new HashMap<>();

    static {
        for (Method m : RabbitList.class.getMethods()) {
            if (m.getDeclaringClass() == RabbitList.class) {
                METHODS.put(m.getName() + "/" + m.getParameterCount(), m);
            }
        }
    }

    private Call() {
    }

    static long make(RabbitList x, String text) {
        int open = text.indexOf('(');
        String inside = text.substring(open + 1, text.lastIndexOf(')')).trim();
        String[] told = inside.isEmpty() ? new String[0] : inside.split(",\\s*");
        Object[] numbers = new Object[told.length];
        for (int i = 0; i < told.length; i++) {
            numbers[i] = number(told[i]);
        }
        Method method = METHODS.get(text.substring(0, open) + "/" + told.length);
        if (method == null) {
            throw new IllegalArgumentException("no such call: " + text);
        }
        try {
            return ((Number) method.invoke(x, numbers)).longValue();
        } catch (InvocationTargetException thrown) {
            throw new IllegalStateException(text + " threw", thrown.getCause());
        } catch (IllegalAccessException closed) {
            throw new IllegalStateException(closed);
        }
    }

    private static int number(String told) {
        switch (told) {
            case "MIN":
                return Integer.MIN_VALUE;
            case "MAX":
                return Integer.MAX_VALUE;
            default:
                return Integer.parseInt(told);
        }
    }
}
