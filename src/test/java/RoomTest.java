import com.sun.management.ThreadMXBean;
import java.lang.management.ManagementFactory;
import java.lang.reflect.Array;
import java.lang.reflect.Field;
import java.lang.reflect.Modifier;
import java.util.ArrayDeque;
import java.util.Collections;
import java.util.Deque;
import java.util.IdentityHashMap;
import java.util.Set;

/** All calls of one run live in one room: a market takes little of it, and only when it is made. */
public final class RoomTest {
    private static final int MOST_OBJECTS = 1000;
    private static final int MOST_CELLS = 5000;
    /** None are due; a little is left to the virtual machine, less than one object in each round would take. */
    private static final long MOST_BYTES = 256;

    public static void main(String[] args) throws IllegalAccessException {
        Check check = new Check();
        aNewMarketIsSmall(check);
        callsMakeNothing(check);
        check.end();
    }

    private static void aNewMarketIsSmall(Check check) throws IllegalAccessException {
        int[] room = roomOf(new PantryMarket(5));
        check.is(room[0] + " objects are few", true, () -> room[0] > 0 && room[0] <= MOST_OBJECTS);
        check.is(room[1] + " fields and elements are few", true, () -> room[1] > 0 && room[1] <= MOST_CELLS);
    }

    /** Objects, and their fields and elements, that can be reached from an object. */
    private static int[] roomOf(Object start) throws IllegalAccessException {
        Set<Object> met = Collections.newSetFromMap(new IdentityHashMap<>());
        Deque<Object> waiting = new ArrayDeque<>();
        waiting.add(start);
        met.add(start);
        int cells = 0;
        while (!waiting.isEmpty()) {
            for (Object part : partsOf(waiting.remove())) {
                cells++;
                if (part != null && !(part instanceof Number) && !(part instanceof Boolean) && met.add(part)) {
                    waiting.add(part);
                }
            }
        }
        return new int[] {met.size(), cells};
    }

    private static Object[] partsOf(Object object) throws IllegalAccessException {
        if (object.getClass().isArray()) {
            Object[] parts = new Object[Array.getLength(object)];
            for (int k = 0; k < parts.length; k++) {
                parts[k] = Array.get(object, k);
            }
            return parts;
        }
        Field[] fields = object.getClass().getDeclaredFields();
        Object[] parts = new Object[fields.length];
        for (int k = 0; k < fields.length; k++) {
            if (!Modifier.isStatic(fields[k].getModifiers())) {
                fields[k].setAccessible(true);
                parts[k] = fields[k].get(object);
            }
        }
        return parts;
    }

    private static void callsMakeNothing(Check check) throws IllegalAccessException {
        ThreadMXBean threads = (ThreadMXBean) ManagementFactory.getThreadMXBean();
        int[] before = roomOf(new PantryMarket(5));
        everyCall(new PantryMarket(5));
        PantryMarket market = new PantryMarket(5);
        long start = threads.getCurrentThreadAllocatedBytes();
        everyCall(market);
        long made = threads.getCurrentThreadAllocatedBytes() - start;
        int[] after = roomOf(market);
        check.is("bytes made by some 500 calls are few: " + made, true, () -> made <= MOST_BYTES);
        check.is("objects that are held", before[0], () -> after[0]);
        check.is("fields and elements that are held", before[1], () -> after[1]);
    }

    /** Some 500 calls, every one of the face among them, of which none throws. */
    private static void everyCall(PantryMarket m) {
        for (int k = 0; k < 18; k++) {
            m.stock(0, 1000);
            Markets.pass(m, 0, 1, 0, 3);
            m.sell(1, 0, 1);
            m.unsell(1, 0, 1);
            m.broken(1, 0, 1);
            m.pick(1, m.reserve(1, 0, 1, 9));
            m.tick(0, 1);
            m.tick(1, 1);
            m.deliver(0);
            m.ask(1, 0, 2);
            m.twice(0);
            m.counted(1, 5);
            m.sync(1);
            m.crash(1);
            m.back(1);
            m.slot(0, 0);
            m.has(1, 0, 3);
            m.news(1, 0, 0);
            m.pair(0, 1, 3);
            m.total(0, 1);
            m.look(3);
            Markets.dropAll(m);
        }
    }
}
