import java.lang.management.ManagementFactory;
import java.lang.reflect.Array;
import java.lang.reflect.Field;
import java.lang.reflect.Modifier;
import java.util.ArrayDeque;
import java.util.Collections;
import java.util.Deque;
import java.util.IdentityHashMap;
import java.util.Set;

/** What an object takes of the room when it is made, and that the calls take nothing. */
public final class RoomTest {
    private static final Check check = new Check("RoomTest");
    private static int objects;
    private static int elements;

    public static void main(String[] args) throws IllegalAccessException {
        check.part("the room");
        measure(new RetryStorm());
        System.out.println("an object takes " + objects + " objects and arrays, " + elements + " fields and elements");
        check.holds("few objects", objects < 500);
        check.holds("few elements", elements < 20_000);
        RetryStorm x = loaded();
        callsOf(x);
        long before = allocated();
        callsOf(x);
        long taken = allocated() - before;
        System.out.println("512 calls take " + taken + " bytes");
        check.holds("calls make nothing", taken < 100_000);
        check.end();
    }

    private static RetryStorm loaded() {
        RetryStorm x = new RetryStorm();
        for (int client = 0; client < 6; client++) {
            x.set(client, 0, 1);
            x.set(client, 4, 5);
            x.set(client, 7, client % 4);
            x.set(client, 9, client);
            x.surge(client, 4, 0, 100);
        }
        return x;
    }

    private static void callsOf(RetryStorm x) {
        for (int i = 0; i < 128; i++) {
            x.run(60);
            x.bestDiscipline(15);
            x.digest();
            x.undo();
        }
    }

    private static long allocated() {
        com.sun.management.ThreadMXBean threads = (com.sun.management.ThreadMXBean) ManagementFactory.getThreadMXBean();
        return threads.getThreadAllocatedBytes(Thread.currentThread().getId());
    }

    private static void measure(Object root) throws IllegalAccessException {
        Set<Object> seen = Collections.newSetFromMap(new IdentityHashMap<>());
        Deque<Object> open = new ArrayDeque<>();
        seen.add(root);
        open.add(root);
        while (!open.isEmpty()) {
            Object o = open.poll();
            objects++;
            if (o.getClass().isArray()) {
                elements += Array.getLength(o);
                for (int i = 0; o instanceof Object[] && i < Array.getLength(o); i++) {
                    push(Array.get(o, i), seen, open);
                }
                continue;
            }
            for (Field f : o.getClass().getDeclaredFields()) {
                if (!Modifier.isStatic(f.getModifiers())) {
                    elements++;
                    f.setAccessible(true);
                    push(f.getType().isPrimitive() ? null : f.get(o), seen, open);
                }
            }
        }
    }

    private static void push(Object o, Set<Object> seen, Deque<Object> open) {
        if (o != null && seen.add(o)) {
            open.add(o);
        }
    }
}
