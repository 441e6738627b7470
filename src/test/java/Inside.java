import java.lang.reflect.Array;
import java.lang.reflect.Field;
import java.lang.reflect.Modifier;
import java.util.Arrays;
import java.util.Collections;
import java.util.IdentityHashMap;
import java.util.Set;

/**
 * What a desk holds, found by going from field to field: how the state is held is free, so no test
 * may know a private name.
 */
final class Inside {
    private final Set<Object> held = Collections.newSetFromMap(new IdentityHashMap<>());
    private int cells = 0;

    Inside(LadderDesk desk) {
        look(desk);
    }

    /** Objects and arrays, the desk among them. */
    int objects() {
        return held.size();
    }

    /** Fields and elements of all these. */
    int cells() {
        return cells;
    }

    /** Writes over every row of longs that holds just these; how many there were. */
    int writeOver(long[] these, long[] others) {
        int rows = 0;
        for (Object one : held) {
            if (one instanceof long[] row && Arrays.equals(row, these)) {
                System.arraycopy(others, 0, row, 0, row.length);
                rows++;
            }
        }
        return rows;
    }

    private void look(Object one) {
        if (one == null || one instanceof String || !held.add(one)) {
            return;
        }
        Class<?> type = one.getClass();
        if (type.isArray()) {
            lookAtArray(one);
        } else if (type.getName().startsWith("LadderDesk")) {
            lookAtFields(one, type);
        } else {
            throw new IllegalStateException("a desk holds a " + type);
        }
    }

    private void lookAtArray(Object array) {
        cells += Array.getLength(array);
        if (array instanceof Object[] objects) {
            for (Object one : objects) {
                look(one);
            }
        }
    }

    private void lookAtFields(Object one, Class<?> type) {
        for (Field field : type.getDeclaredFields()) {
            if (!Modifier.isStatic(field.getModifiers())) {
                cells++;
                if (!field.getType().isPrimitive()) {
                    look(valueOf(field, one));
                }
            }
        }
    }

    private static Object valueOf(Field field, Object one) {
        try {
            field.setAccessible(true);
            return field.get(one);
        } catch (IllegalAccessException e) {
            throw new IllegalStateException(e);
        }
    }
}
