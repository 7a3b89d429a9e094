import java.lang.management.ManagementFactory;
import java.lang.reflect.Array;
import java.lang.reflect.Field;
import java.lang.reflect.Modifier;
import java.util.ArrayDeque;
import java.util.Collections;
import java.util.Deque;
import java.util.IdentityHashMap;
import java.util.Set;

/** All calls of a run live in one room: an object's rows are made once and are few, its calls leave next to nothing. */
public final class RoomTest {
    private static final int CALLS = 512;
    private static final long MOST_OBJECTS = 600_000;
    private static final long MOST_ELEMENTS = 7_300_000;
    private static final long MOST_BYTES_OF_CALLS = 60_000;

    public static void main(String[] args) throws IllegalAccessException {
        aNewObjectIsSmall();
        callsLeaveNothing();
        Check.close();
    }

    /** Making an object is the dearest call: even a run of nothing else has room. */
    private static void aNewObjectIsSmall() throws IllegalAccessException {
        long[] size = sizeOf(new VanPlays());
        Check.due("objects are found: " + size[0], size[0] > 20 && size[1] > size[0], true);
        Check.due("objects of an object are few: " + size[0], size[0] * CALLS < MOST_OBJECTS, true);
        Check.due("fields and elements of an object are few: " + size[1], size[1] * CALLS < MOST_ELEMENTS, true);
    }

    private static void callsLeaveNothing() throws IllegalAccessException {
        dearCalls(new VanPlays());
        VanPlays x = new VanPlays();
        long[] before = sizeOf(x);
        long made = bytesSoFar();
        dearCalls(x);
        long end = bytesSoFar();
        long[] after = sizeOf(x);
        Check.due("bytes of its calls are few: " + (end - made), end - made < MOST_BYTES_OF_CALLS, true);
        Check.due("objects behind its calls", after[0], before[0]);
        Check.due("fields and elements behind its calls", after[1], before[1]);
    }

    /** How many objects and arrays hang on this one, and how many fields and elements they have. */
    private static long[] sizeOf(Object root) throws IllegalAccessException {
        Set<Object> seen = Collections.newSetFromMap(new IdentityHashMap<>());
        Deque<Object> open = new ArrayDeque<>();
        seen.add(root);
        open.add(root);
        long fields = 0;
        while (!open.isEmpty()) {
            Object one = open.remove();
            fields += one.getClass().isArray() ? lookIntoArray(one, seen, open) : lookIntoFields(one, seen, open);
        }
        return new long[] {seen.size(), fields};
    }

    private static long lookIntoArray(Object array, Set<Object> seen, Deque<Object> open) {
        int length = Array.getLength(array);
        for (int i = 0; i < length && !array.getClass().getComponentType().isPrimitive(); i++) {
            see(Array.get(array, i), seen, open);
        }
        return length;
    }

    private static long lookIntoFields(Object one, Set<Object> seen, Deque<Object> open)
            throws IllegalAccessException {
        long fields = 0;
        for (Field field : one.getClass().getDeclaredFields()) {
            if (Modifier.isStatic(field.getModifiers())) {
                continue;
            }
            fields++;
            field.setAccessible(true);
            if (!field.getType().isPrimitive()) {
                see(field.get(one), seen, open);
            }
        }
        return fields;
    }

    private static void see(Object one, Set<Object> seen, Deque<Object> open) {
        if (one != null && seen.add(one)) {
            open.add(one);
        }
    }

    private static long bytesSoFar() {
        return ((com.sun.management.ThreadMXBean) ManagementFactory.getThreadMXBean())
                .getThreadAllocatedBytes(Thread.currentThread().getId());
    }

    private static void dearCalls(VanPlays x) {
        for (int h = 0; h < 12; h++) {
            x.feed(0x64656667, 0, 0, 0, 0);
            x.end(4);
            x.hall(h, h, 99, 99);
        }
        for (int s = 0; s < 6; s++) {
            x.feed(0x01010101, 0x01010165, 0, 0, 0);
            x.end(8);
            x.show(0, 0, 0, 13, 5, 3);
            for (int h = 0; h < 12; h++) {
                x.give(h, s, 1);
            }
        }
        for (int i = 0; i < 60; i++) {
            x.book(i % 6);
            x.plugged(i % 6, i % 12, 7);
            x.lacks(i % 6, i % 12);
            x.feed(0x66656520, 0x313b6665, 0x65000000, 0, 0);
            x.terms(i % 6);
            x.snow(i % 12, i % 14);
        }
    }
}
