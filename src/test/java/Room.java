import java.lang.reflect.Array;
import java.lang.reflect.Field;
import java.lang.reflect.Modifier;
import java.util.Collections;
import java.util.IdentityHashMap;
import java.util.Set;

/** What one object keeps: its objects and arrays, and their fields and elements, each counted once. */
final class Room {
    private final Set<Object> seen = Collections.newSetFromMap(new IdentityHashMap<>());
    private int elements;

    Room(Object first) throws IllegalAccessException {
        see(first);
    }

    int objects() {
        return seen.size();
    }

    int elements() {
        return elements;
    }

    private void see(Object x) throws IllegalAccessException {
        if (x == null || !seen.add(x)) {
            return;
        }
        if (x.getClass().isArray()) {
            seeElements(x);
        } else {
            seeFields(x);
        }
    }

    private void seeElements(Object row) throws IllegalAccessException {
        elements += Array.getLength(row);
        if (!row.getClass().getComponentType().isPrimitive()) {
            for (Object element : (Object[]) row) {
                see(element);
            }
        }
    }

    private void seeFields(Object x) throws IllegalAccessException {
        for (Field field : x.getClass().getDeclaredFields()) {
            if (!Modifier.isStatic(field.getModifiers())) {
                elements++;
                field.setAccessible(true);
                if (!field.getType().isPrimitive()) {
                    see(field.get(x));
                }
            }
        }
    }
}
