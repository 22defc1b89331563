import java.lang.reflect.Array;
import java.lang.reflect.Field;
import java.lang.reflect.Modifier;
import java.util.Collections;
import java.util.IdentityHashMap;
import java.util.Set;

/**
 * Lays longs into an object that no known run of calls brings there. How the
 * state is held is free, so a long is found by what it is, not by a name.
 */
final class Inside {
    private final long content;
    private final long other;
    private final Set<Object> seen = Collections.newSetFromMap(new IdentityHashMap<>());
    private int laid;

    private Inside(long content, long other) {
        this.content = content;
        this.other = other;
    }

    /** Every long in the object that is the content becomes the other one: how many there were. */
    static int lay(Object object, long content, long other) {
        Inside inside = new Inside(content, other);
        inside.walk(object);
        return inside.laid;
    }

    private void walk(Object object) {
        if (object == null || !seen.add(object)) {
            return;
        }
        if (object.getClass().isArray()) {
            walkArray(object);
        } else if (isOwn(object.getClass())) {
            walkFields(object);
        }
    }

    private void walkArray(Object array) {
        boolean longs = array instanceof long[];
        if (array.getClass().getComponentType().isPrimitive() && !longs) {
            return;
        }
        for (int i = 0; i < Array.getLength(array); i++) {
            if (!longs) {
                walk(Array.get(array, i));
            } else if (Array.getLong(array, i) == content) {
                Array.setLong(array, i, other);
                laid++;
            }
        }
    }

    private void walkFields(Object object) {
        for (Field field : object.getClass().getDeclaredFields()) {
            if (!Modifier.isStatic(field.getModifiers())) {
                walkField(object, field);
            }
        }
    }

    private void walkField(Object object, Field field) {
        try {
            field.setAccessible(true);
            if (!field.getType().isPrimitive()) {
                walk(field.get(object));
            } else if (field.getType() == long.class && field.getLong(object) == content) {
                field.setLong(object, other);
                laid++;
            }
        } catch (IllegalAccessException e) {
            throw new IllegalStateException(e);
        }
    }

    private static boolean isOwn(Class<?> type) {
        return type.getNestHost() == RevisionGrove.class;
    }
}
