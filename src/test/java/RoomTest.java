import java.lang.management.ManagementFactory;
import java.lang.reflect.Array;
import java.lang.reflect.Field;
import java.lang.reflect.Modifier;
import java.util.ArrayDeque;
import java.util.Collections;
import java.util.Deque;
import java.util.IdentityHashMap;
import java.util.Set;

/** All rows are made by the constructor: an object is small, and no call makes another object. */
public final class RoomTest {
    private static final Check CHECK = new Check();

    /** Counts the objects that one object holds, and their fields and elements. */
    private static int[] room(Object start) throws IllegalAccessException {
        Set<Object> seen = Collections.newSetFromMap(new IdentityHashMap<>());
        Deque<Object> open = new ArrayDeque<>();
        open.add(start);
        int objects = 0;
        int slots = 0;
        while (!open.isEmpty()) {
            Object x = open.remove();
            if (!seen.add(x)) {
                continue;
            }
            objects++;
            if (x.getClass().isArray()) {
                slots += Array.getLength(x);
                for (int i = 0; !x.getClass().getComponentType().isPrimitive() && i < Array.getLength(x); i++) {
                    open.add(Array.get(x, i));
                }
                continue;
            }
            for (Field f : x.getClass().getDeclaredFields()) {
                if (!Modifier.isStatic(f.getModifiers())) {
                    f.setAccessible(true);
                    slots++;
                    if (!f.getType().isPrimitive()) {
                        open.add(f.get(x));
                    }
                }
            }
        }
        return new int[] {objects, slots};
    }

    /** One call of each method, the dear ones on large modules. */
    private static long calls(SpunModules x, int seed) {
        long sum = x.begins(2 + seed % 2) + x.sizes(0, 5) + x.sets(0, 0, 0, 0, 1) + x.draws(0, seed);
        sum += x.turns(0, 0, 1, 1) + x.sizes(1, 2) + x.draws(1, seed) + x.adds(2, 1, 1) + x.times(3, 1, 1) + x.over(3, 3);
        sum += x.parts(2, 2, 5) + x.rests(2, 2, 1) + x.size(0) + x.at(0, 1, 1, 1) + x.moved(0, 0, 17) + x.spun(0, 5);
        sum += x.row(0, 5, 0) + x.simple(0) + x.least(0) + x.factors(0) + x.factor(0, 0, 3) + x.telling(0, 0, 3);
        sum += x.common(0, 3) + x.ways(0, 0) + x.layer(0, 1) + x.spaces(3, 2) + x.type(97) + x.tells() + x.clear();
        sum += x.word(0, 1, 2) + x.nulls(0, 1) + x.nulls(0, 2) + x.poly(0, 2) + x.back() + x.told(9);
        return sum + x.digest();
    }

    public static void main(String[] args) throws IllegalAccessException {
        int[] room = room(new SpunModules());
        System.out.println(room[0] + " objects, " + room[1] + " fields and elements");
        CHECK.holds("an object has " + room[0] + " objects, at most 600", room[0] <= 600);
        CHECK.holds("an object has " + room[1] + " fields and elements, at most 7000", room[1] <= 7000);

        // each object gets ten rounds, which stay within its 512 calls
        SpunModules[] objects = new SpunModules[42];
        for (int i = 0; i < objects.length; i++) {
            objects[i] = new SpunModules();
        }
        com.sun.management.ThreadMXBean bean = (com.sun.management.ThreadMXBean) ManagementFactory.getThreadMXBean();
        long sum = 0;
        for (int seed = 0; seed < 20; seed++) {
            sum += calls(objects[40 + seed / 10], seed);
        }
        long before = bean.getCurrentThreadAllocatedBytes();
        for (int seed = 0; seed < 400; seed++) {
            sum += calls(objects[seed / 10], seed);
        }
        long made = bean.getCurrentThreadAllocatedBytes() - before;
        // a byte a call would be 14,000: the machine's own bookkeeping is left room
        CHECK.holds(made + " bytes made by 14,000 calls (" + sum + ")", made < 10000);
        CHECK.ends();
    }
}
