import java.lang.reflect.InvocationTargetException;
import java.lang.reflect.Method;
import java.util.HashMap;
import java.util.Map;

/** One call of the public face, by its name and numbers: true and false are 1 and 0. */
final class Call {
    private static final Map<String, Method> FACE = new HashMap<>();

    static {
        for (Method m : PressSheets.class.getMethods()) {
            if (m.getDeclaringClass() == PressSheets.class) {
                FACE.put(m.getName(), m);
            }
        }
    }

    private final Method method;
    private final Object[] values;
    private final String text;

    private Call(String name, int[] numbers) {
        method = FACE.get(name);
        if (method == null || method.getParameterCount() != numbers.length) {
            throw new IllegalArgumentException(name);
        }
        values = new Object[numbers.length];
        StringBuilder line = new StringBuilder(name).append('(');
        for (int i = 0; i < numbers.length; i++) {
            boolean truth = method.getParameterTypes()[i] == boolean.class;
            values[i] = truth ? (Object) (numbers[i] != 0) : (Object) numbers[i];
            line.append(i == 0 ? "" : ", ").append(values[i]);
        }
        text = line.append(')').toString();
    }

    static Call of(String name, int... numbers) {
        return new Call(name, numbers);
    }

    int on(PressSheets x) {
        try {
            return (Integer) method.invoke(x, values);
        } catch (IllegalAccessException | InvocationTargetException e) {
            throw new IllegalStateException(text, e);
        }
    }

    @Override
    public String toString() {
        return text;
    }
}
