import java.lang.reflect.Array;
import java.lang.reflect.Field;
import java.lang.reflect.Modifier;
import java.util.ArrayList;
import java.util.IdentityHashMap;
import java.util.List;
import java.util.Map;

/** All numbers and references that hang on an object, so that two looks at it can be compared. */
final class Snapshot {
    private final Map<Object, Integer> met = new IdentityHashMap<>();
    private final List<Object> open = new ArrayList<>();
    private final StringBuilder text = new StringBuilder();
    private long elements = 0;

    private Snapshot(Object root) {
        note(root);
        for (int i = 0; i < open.size(); i++) {
            Object o = open.get(i);
            if (o.getClass().isArray()) noteArray(o);
            else noteFields(o);
        }
    }

    static String of(Object root) {
        return new Snapshot(root).text.toString();
    }

    /** How many fields and elements there are in all. */
    static long elementsOf(Object root) {
        return new Snapshot(root).elements;
    }

    private void noteArray(Object array) {
        boolean plain = array.getClass().getComponentType().isPrimitive();
        for (int i = 0; i < Array.getLength(array); i++) {
            if (plain) write(Array.get(array, i));
            else note(Array.get(array, i));
        }
    }

    private void noteFields(Object o) {
        for (Class<?> c = o.getClass(); c != Object.class; c = c.getSuperclass()) {
            for (Field f : c.getDeclaredFields()) {
                if (Modifier.isStatic(f.getModifiers())) continue;
                f.setAccessible(true);
                if (f.getType().isPrimitive()) write(valueOf(f, o));
                else note(valueOf(f, o));
            }
        }
    }

    private static Object valueOf(Field f, Object o) {
        try {
            return f.get(o);
        } catch (IllegalAccessException closed) {
            throw new IllegalStateException(closed);
        }
    }

    private void note(Object reference) {
        if (reference != null && met.putIfAbsent(reference, met.size()) == null) open.add(reference);
        write(reference == null ? "-" : "#" + met.get(reference));
    }

    private void write(Object value) {
        elements++;
        text.append(value).append(' ');
    }
}
