import java.lang.reflect.Array;
import java.lang.reflect.Field;
import java.lang.reflect.Modifier;

/** Counts what an object holds: it and all that hangs on it (a tree: nothing is held twice). */
final class Room {
    private Room() {
    }

    static int objects(Object of) {
        return walk(of)[0];
    }

    static int elements(Object of) {
        return walk(of)[1];
    }

    private static int[] walk(Object of) {
        int[] sum = {0, 0};
        if (of == null) {
            return sum;
        }
        sum[0] = 1;
        if (of.getClass().isArray()) {
            walkArray(of, sum);
        } else {
            walkFields(of, sum);
        }
        return sum;
    }

    private static void walkArray(Object of, int[] sum) {
        int length = Array.getLength(of);
        sum[1] += length;
        for (int i = 0; i < length && !of.getClass().getComponentType().isPrimitive(); i++) {
            add(sum, Array.get(of, i));
        }
    }

    private static void walkFields(Object of, int[] sum) {
        for (Field f : of.getClass().getDeclaredFields()) {
            if (!Modifier.isStatic(f.getModifiers())) {
                sum[1]++;
                if (!f.getType().isPrimitive()) {
                    f.setAccessible(true);
                    try {
                        add(sum, f.get(of));
                    } catch (IllegalAccessException e) {
                        throw new IllegalStateException(e);
                    }
                }
            }
        }
    }

    private static void add(int[] sum, Object of) {
        int[] more = walk(of);
        sum[0] += more[0];
        sum[1] += more[1];
    }
}
