import java.lang.reflect.Array;
import java.lang.reflect.Field;
import java.lang.reflect.Modifier;
import java.util.ArrayDeque;
import java.util.Collections;
import java.util.Deque;
import java.util.IdentityHashMap;
import java.util.Set;

/** All calls of one run live in one room: what an object takes of it is little, and no call makes an object more. */
public final class RoomTest {
    private static final Due T = new Due("RoomTest");
    /** So many objects of the class would fill the room of 600,000 objects and 7.3 million fields and elements. */
    private static final int OBJECTS_OF_THE_CLASS = 3000;
    private static final int MOST_OBJECTS = 600_000 / OBJECTS_OF_THE_CLASS;
    private static final int MOST_ELEMENTS = 7_300_000 / OBJECTS_OF_THE_CLASS;
    private static final int KEPT_READY = 100;
    /** With what made it ready, an object is used for fewer than 512 calls. */
    private static final int ROUNDS = 10;
    /** The least that an object takes. */
    private static final int BYTES = 8;

    private int objects;
    private int elements;

    public static void main(String[] args) throws IllegalAccessException {
        RoomTest made = countOf(new BoredKings());
        T.due("objects " + made.objects + " are few", made.objects <= MOST_OBJECTS ? 1 : 0, 1);
        T.due("elements " + made.elements + " are few", made.elements <= MOST_ELEMENTS ? 1 : 0, 1);
        BoredKings used = used();
        RoomTest then = countOf(used);
        T.due("objects when used", then.objects, made.objects);
        T.due("elements when used", then.elements, made.elements);
        callsMakeNothing();
        T.end();
    }

    private static BoredKings used() {
        BoredKings x = Due.court("p0,1,9;p1,31,9;p2,3,9;p3,31,9;p0,7,9;p0,8,9;t0,1,9;t1,2,9;t2,4,9;t5,31,9;f3;");
        askAll(x);
        askAll(x);
        return x;
    }

    /** Each call but wipe(), by which the next round would have no text to lay; the dearest with the most that they take. */
    private static int askAll(BoredKings x) {
        int sum = x.write(31) + x.fault() + x.lay();
        sum += x.person(0, 4) + x.thing(0, 3) + x.pass(1) + x.hide(0) + x.arrange(900, 31, 9) + x.pass(20) + x.undo();
        sum += x.king(40, 1) + x.bell() + x.hides(40) + x.raise(5, 0) + x.order(40, -1) + x.away(1);
        sum += x.seen(1, 60) + x.tastes(0, 1) + x.forget() + x.lasts(6, 31, 9, 5, 0) + x.content(40) + x.dull(1);
        return sum + x.year(9999, 60, 1) + x.keep() + x.keep() + x.back() + x.undo() + x.count(8);
    }

    /** By what the Java machine counts, where it does; some bytes are left free for what the machine itself makes. */
    private static void callsMakeNothing() {
        if (!(java.lang.management.ManagementFactory.getThreadMXBean() instanceof com.sun.management.ThreadMXBean bean)
            || !bean.isThreadAllocatedMemorySupported() || !bean.isThreadAllocatedMemoryEnabled()) {
            return;
        }
        BoredKings[] ready = new BoredKings[KEPT_READY];
        for (int i = 0; i < KEPT_READY; i++) {
            ready[i] = used();
        }
        long sum = 0;
        long before = bean.getCurrentThreadAllocatedBytes();
        for (int round = 0; round < ROUNDS * KEPT_READY; round++) {
            sum += askAll(ready[round % KEPT_READY]);
        }
        long bytes = bean.getCurrentThreadAllocatedBytes() - before;
        T.due("bytes " + bytes + " are few, sum " + sum, bytes < (long) ROUNDS * KEPT_READY * BYTES ? 1 : 0, 1);
    }

    private static RoomTest countOf(Object object) throws IllegalAccessException {
        RoomTest count = new RoomTest();
        Set<Object> found = Collections.newSetFromMap(new IdentityHashMap<>());
        Deque<Object> open = new ArrayDeque<>();
        open.add(object);
        while (!open.isEmpty()) {
            Object one = open.remove();
            if (!found.add(one)) {
                continue;
            }
            count.objects++;
            if (one.getClass().isArray()) {
                count.lookAtArray(one, open);
            } else {
                count.lookAtFields(one, open);
            }
        }
        return count;
    }

    private void lookAtArray(Object array, Deque<Object> open) {
        elements += Array.getLength(array);
        for (int i = 0; i < Array.getLength(array) && !array.getClass().getComponentType().isPrimitive(); i++) {
            open.add(Array.get(array, i));
        }
    }

    private void lookAtFields(Object object, Deque<Object> open) throws IllegalAccessException {
        for (Field field : object.getClass().getDeclaredFields()) {
            if (Modifier.isStatic(field.getModifiers())) {
                continue;
            }
            elements++;
            field.setAccessible(true);
            if (!field.getType().isPrimitive() && field.get(object) != null) {
                open.add(field.get(object));
            }
        }
    }
}
