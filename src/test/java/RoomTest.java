import java.lang.reflect.Array;
import java.lang.reflect.Field;
import java.lang.reflect.Modifier;
import java.util.ArrayDeque;
import java.util.Collections;
import java.util.IdentityHashMap;
import java.util.Set;

/**
 * Rule 12 of the language: how many objects and arrays, fields and elements belong to one object, and that they grow by
 * no call (LanguageTest has it that no call makes one). A run's room is 600,000 of the first and 7.3 million of the
 * second: here are the bounds by which a thousand objects fit into a run with ease.
 */
public final class RoomTest {
    private static final Check CHECK = new Check("RoomTest");
    private static final int MOST_OBJECTS = 100, MOST_FIELDS = 3600;

    private final Set<Object> found = Collections.newSetFromMap(new IdentityHashMap<>());
    private final ArrayDeque<Object> toLookAt = new ArrayDeque<>();
    private int fields;

    public static void main(String[] args) throws IllegalAccessException {
        RoomTest first = new RoomTest();
        PuppetBar bar = new PuppetBar();
        first.walk(bar);
        CHECK.isTrue("objects and arrays: " + first.found.size(), first.found.size() <= MOST_OBJECTS);
        CHECK.isTrue("fields and elements: " + first.fields, first.fields <= MOST_FIELDS);
        Twins.busy(bar);
        for (int i = -1; i <= 7; i++) {
            bar.now(i);
            bar.play(i);
            bar.reach(i, 0);
            bar.odds(i, i, 1);
            bar.holes(i);
            bar.mark(i, 0);
        }
        bar.suspects();
        bar.look();
        RoomTest then = new RoomTest();
        then.walk(bar);
        CHECK.due("objects and arrays then", then.found.size(), first.found.size());
        CHECK.due("fields and elements then", then.fields, first.fields);
        CHECK.isTrue("they are the same ones", then.found.containsAll(first.found));
        CHECK.end();
    }

    private void walk(Object root) throws IllegalAccessException {
        add(root);
        while (!toLookAt.isEmpty()) {
            Object next = toLookAt.remove();
            if (next.getClass().isArray()) {
                elements(next);
            } else {
                fieldsOf(next);
            }
        }
    }

    private void add(Object object) {
        if (object != null && found.add(object)) {
            toLookAt.add(object);
        }
    }

    private void elements(Object array) {
        int length = Array.getLength(array);
        fields += length;
        for (int i = 0; i < length && !array.getClass().getComponentType().isPrimitive(); i++) {
            add(Array.get(array, i));
        }
    }

    private void fieldsOf(Object object) throws IllegalAccessException {
        for (Field f : object.getClass().getDeclaredFields()) {
            if (!Modifier.isStatic(f.getModifiers())) {
                fields++;
                f.setAccessible(true);
                if (!f.getType().isPrimitive()) {
                    add(f.get(object));
                }
            }
        }
    }
}
