import java.lang.management.ManagementFactory;
import java.lang.reflect.Array;
import java.lang.reflect.Field;
import java.lang.reflect.Modifier;
import java.util.ArrayDeque;
import java.util.Collections;
import java.util.Deque;
import java.util.IdentityHashMap;
import java.util.Set;

/** What an object holds and what its calls make: all calls of a run live in one room. */
public final class RoomTest {
    private static final Check check = new Check();
    private static final int MOST_OBJECTS = 200;
    private static final int MOST_ELEMENTS = 2000;
    // one call that makes the least object in each of the twenty rounds makes as many
    private static final long MOST_BYTES = 320;

    private int objects;
    private int elements;
    private long answers;

    public static void main(String[] args) throws Exception {
        RoomTest test = new RoomTest();
        RoadCounts full = fill();
        test.countFrom(full);
        check.due(test.objects + " objects are few", test.objects <= MOST_OBJECTS, true);
        check.due(test.elements + " fields and elements are few", test.elements <= MOST_ELEMENTS, true);
        // the first time, classes are loaded
        test.everyCall(fill());
        var threads = (com.sun.management.ThreadMXBean) ManagementFactory.getThreadMXBean();
        long id = Thread.currentThread().getId();
        long before = threads.getThreadAllocatedBytes(id);
        test.everyCall(full);
        long bytes = threads.getThreadAllocatedBytes(id) - before;
        check.due(bytes + " bytes by calls are nearly none", bytes < MOST_BYTES, true);
        check.due("the calls have answered", test.answers != 0, true);
        check.end("RoomTest");
    }

    private static RoadCounts fill() {
        RoadCounts x = new RoadCounts();
        for (int r = 0; r < 12; r++) {
            x.road(r % 8, (r + 1) % 8, r);
        }
        return x;
    }

    private void countFrom(RoadCounts x) throws IllegalAccessException {
        Set<Object> seen = Collections.newSetFromMap(new IdentityHashMap<>());
        Deque<Object> open = new ArrayDeque<>();
        open.add(x);
        while (!open.isEmpty()) {
            Object o = open.remove();
            if (seen.add(o)) {
                objects++;
                addParts(o, open);
            }
        }
    }

    private void addParts(Object o, Deque<Object> open) throws IllegalAccessException {
        if (o.getClass().isArray()) {
            for (int i = 0; i < Array.getLength(o); i++) {
                addPart(Array.get(o, i), o.getClass().getComponentType(), open);
            }
            return;
        }
        for (Field f : o.getClass().getDeclaredFields()) {
            if (!Modifier.isStatic(f.getModifiers())) {
                f.setAccessible(true);
                addPart(f.get(o), f.getType(), open);
            }
        }
    }

    private void addPart(Object part, Class<?> type, Deque<Object> open) {
        elements++;
        if (part != null && !type.isPrimitive()) {
            open.add(part);
        }
    }

    /** Twenty rounds of every call but road, with ordinary and with wrong inputs. */
    private void everyCall(RoadCounts x) {
        for (int i = 0; i < 20; i++) {
            answers += x.weekday(i % 5, i % 7, 1 + i) ? 1 : 0;
            answers += x.month(i % 5, i % 13, 1 + i) ? 1 : 0;
            answers += x.holiday(20 * i) ? 1 : 0;
            answers += x.count(i % 3, 13 * i, 100 * i) ? 1 : 0;
            answers += x.shape(i % 13, i % 4) ? 1 : 0;
            answers += x.year(i % 3) + x.span(i % 3, i % 2) + x.best(i % 3) + x.how(i) + x.load(i);
            answers += x.balances(i % 9) + x.balance(i % 9) + x.does(4095 - i) + x.plan() + x.whole(i % 5);
            answers += x.feed(0x303A312D, 0x393B313A, 0x312D352C, 0x322D3600, 0) + x.rules(i % 2 == 0 ? 15 : i);
            answers += x.feed(0x01000105, 0x00010203, 0x04050607, 0x08090A0B, 0x00FF0000) + x.pass(i % 13, 20);
            answers += x.kinds(i % 13, i % 11) + x.look(i % 13, i % 7) + x.look(i % 3, 100 + 13 * i);
            answers += x.tell(i % 7) + x.tell(5);
        }
    }
}
