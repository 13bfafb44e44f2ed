import com.sun.management.ThreadMXBean;
import java.lang.management.ManagementFactory;
import java.lang.reflect.Array;
import java.lang.reflect.Field;
import java.lang.reflect.Modifier;
import java.util.ArrayDeque;
import java.util.Collections;
import java.util.Deque;
import java.util.IdentityHashMap;
import java.util.Set;

/** LANGUAGE.md, rule 12: what a run of calls makes is counted, and must be small. */
public final class RoomTest {
    private static final int MOST_OBJECTS = 100;
    private static final int MOST_FIELDS_AND_ELEMENTS = 10_000;
    /** Far below one small object for each of the calls. */
    private static final long SOME_BYTES = 1000;

    private final Set<Object> seen = Collections.newSetFromMap(new IdentityHashMap<>());
    private final Deque<Object> open = new ArrayDeque<>();
    private long fieldsAndElements;

    public static void main(String[] args) throws ReflectiveOperationException {
        Due due = new Due();
        theFullestObjectIsSmall(due);
        onlyNodesAndNewObjectsTakeRoom(due);
        due.end();
    }

    private static void theFullestObjectIsSmall(Due due) throws ReflectiveOperationException {
        RoomTest room = new RoomTest();
        room.count(Edges.nodes(30, 200));
        int objects = room.seen.size();
        long rest = room.fieldsAndElements;
        due.is(objects + " objects are few", objects <= MOST_OBJECTS, true);
        due.is(rest + " fields and elements are few", rest <= MOST_FIELDS_AND_ELEMENTS, true);
    }

    private void count(Object first) throws ReflectiveOperationException {
        look(first);
        while (!open.isEmpty()) {
            Object next = open.pop();
            if (next.getClass().isArray()) {
                countElements(next);
            } else {
                countFields(next);
            }
        }
    }

    private void look(Object found) {
        if (found != null && seen.add(found)) {
            open.push(found);
        }
    }

    private void countElements(Object array) {
        fieldsAndElements += Array.getLength(array);
        if (array instanceof Object[] parts) {
            for (Object part : parts) {
                look(part);
            }
        }
    }

    private void countFields(Object object) throws ReflectiveOperationException {
        for (Field f : object.getClass().getDeclaredFields()) {
            if (!Modifier.isStatic(f.getModifiers())) {
                fieldsAndElements++;
                f.setAccessible(true);
                if (!f.getType().isPrimitive()) {
                    look(f.get(object));
                }
            }
        }
    }

    private static void onlyNodesAndNewObjectsTakeRoom(Due due) {
        ThreadMXBean threads = (ThreadMXBean) ManagementFactory.getThreadMXBean();
        long bytes = Long.MAX_VALUE;
        for (int times = 0; times < 2; times++) { // the first time, the machine itself makes things
            CarThreads x = Edges.nodes(30, 200);
            long before = threads.getCurrentThreadAllocatedBytes();
            otherCalls(x);
            bytes = threads.getCurrentThreadAllocatedBytes() - before;
            due.is("they stepped", x.log(1999) > 0, true);
            due.is("they ended", x.finished(30), 1);
        }
        due.is(bytes + " bytes are none for each call", bytes <= SOME_BYTES, true);
    }

    private static void otherCalls(CarThreads x) {
        for (int n = 1; n <= 30; n++) {
            x.node(0, 0);
            x.node(1, 0);
            x.waits(n, 9, n - 1);
            x.turn(n);
            x.barrier(n % 3);
            x.held(n, n % 17);
            x.cut(n, 100 + n);
            if (n % 5 == 0) {
                x.interrupt(n);
            }
            x.log(n);
            x.safe(n);
            x.finished(n);
        }
        x.run();
        x.close();
    }
}
