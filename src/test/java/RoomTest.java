import java.lang.management.ManagementFactory;
import java.lang.reflect.Array;
import java.lang.reflect.Field;
import java.lang.reflect.Modifier;
import java.util.ArrayDeque;
import java.util.Collections;
import java.util.Deque;
import java.util.IdentityHashMap;
import java.util.Set;

/**
 * All calls of one run live in one room, in which nothing is ever thrown away: an object may hold
 * little, and no call may make anything more.
 */
public final class RoomTest {
    private static final int MOST_OBJECTS = 400;
    private static final int MOST_ELEMENTS = 12000;

    private static int wrong = 0;
    private static int objects;
    private static int elements;

    private static void holds(String what, boolean it) {
        if (!it) {
            wrong++;
            System.out.println("not so: " + what);
        }
    }

    /** Counts what hangs on an object: objects and arrays, and the fields and elements of these. */
    private static void weigh(Object root) throws IllegalAccessException {
        Set<Object> seen = Collections.newSetFromMap(new IdentityHashMap<>());
        Deque<Object> open = new ArrayDeque<>();
        open.add(root);
        seen.add(root);
        objects = 0;
        elements = 0;
        while (!open.isEmpty()) {
            Object it = open.poll();
            objects++;
            if (it.getClass().isArray()) {
                int length = Array.getLength(it);
                elements += length;
                boolean plain = it.getClass().getComponentType().isPrimitive();
                for (int i = 0; i < length && !plain; i++) meet(Array.get(it, i), seen, open);
                continue;
            }
            for (Field f : it.getClass().getDeclaredFields()) {
                if (Modifier.isStatic(f.getModifiers())) continue;
                elements++;
                if (f.getType().isPrimitive()) continue;
                f.setAccessible(true);
                meet(f.get(it), seen, open);
            }
        }
    }

    private static void meet(Object it, Set<Object> seen, Deque<Object> open) {
        if (it != null && seen.add(it)) open.add(it);
    }

    /** Every call there is, most of them with all that they can have to do: some 120 calls. */
    private static long all(LooseWater x) {
        long sum = x.ship(400, 99999, 500, 9) ? 1 : 0;
        for (int k = 1; k <= 12; k++) sum += x.form(k, 60 * k);
        for (int i = 0; i < 12; i++) sum += x.place(10 * i, 100, 100, 100, 1, 0);
        for (int i = 0; i < 12; i++) {
            sum += x.water(i, 5 * i) + x.walls(i, 2) + x.door(i, i % 3 - 1, 5, 9) + x.port(i, i % 3 - 1, 5, 9);
        }
        for (int i = 0; i < 6; i++) sum += x.cargo(9, 9, 1, 9) + x.load(9, 9);
        // "shift stiff if a<1", then one with a fault
        sum += x.feed(0x73686966, 0x74207374, 0x69666620, 0x69662061, 0x3c312020) + x.end(19) + x.plan();
        sum += x.feed(0x73686966, 0x74207374, 0x69666620, 0x69662061, 0x5b312020) + x.plan();
        sum += x.sets(2, 5) + x.image(0) + x.run(0, 9) + x.tells(6) + x.tells(7) + x.tells(8) + x.tells(9);
        sum += x.up() + x.turn(5) + x.rest(5) + x.lever(7) + x.of(0, 2) + x.flows(3, 9) + x.inside(2, 1) + x.outside(1);
        sum += x.slid(0) + x.sinks(1) + x.parts(1) + x.carried(9, 99, 1) + x.order(63, 59, 5) + x.ahead(0, 60, 2);
        sum += x.saved(0, 0, 0, 30) + x.hoses(0, 0, 20) + x.ice(9, 900) + x.night(-999, 5) + x.guess(5, 99, 2);
        return sum + x.best(4, 10, -1) + x.slop(1) + x.still(1) + x.floods(1, 900) + x.leaves(1, 0) + x.count(0) + x.back(0);
    }

    /** -1 where the machine does not count. */
    private static long made() {
        java.lang.management.ThreadMXBean bean = ManagementFactory.getThreadMXBean();
        if (!(bean instanceof com.sun.management.ThreadMXBean)) return -1;
        com.sun.management.ThreadMXBean counts = (com.sun.management.ThreadMXBean) bean;
        if (!counts.isThreadAllocatedMemorySupported() || !counts.isThreadAllocatedMemoryEnabled()) return -1;
        return counts.getThreadAllocatedBytes(Thread.currentThread().getId());
    }

    public static void main(String[] args) throws Exception {
        LooseWater x = new LooseWater();
        weigh(x);
        int objectsFirst = objects;
        int elementsFirst = elements;
        holds(objects + " objects are few", objects <= MOST_OBJECTS);
        holds(elements + " elements are few", elements <= MOST_ELEMENTS);

        // the first time classes are loaded, and measuring makes things of its own: the least of some tries
        all(new LooseWater());
        boolean counted = made() >= 0;
        long more = Long.MAX_VALUE;
        for (int i = 0; i < 3; i++) {
            long before = made();
            long between = made();
            all(x);
            more = Math.min(more, made() - between - (between - before));
        }
        holds("no call makes anything: " + more + " bytes", !counted || more <= 0);
        weigh(x);
        holds("it holds no more than at first", objects <= objectsFirst && elements <= elementsFirst);
        System.out.println(objects + " objects, " + elements + " elements, "
                + (counted ? more + " bytes made by calls" : "not counted what calls make"));
        if (wrong != 0) System.exit(1);
    }
}
