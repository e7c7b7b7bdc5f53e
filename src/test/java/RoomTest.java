import java.lang.management.ManagementFactory;
import java.lang.reflect.Array;
import java.lang.reflect.Field;
import java.lang.reflect.Modifier;
import java.util.ArrayDeque;
import java.util.Deque;
import java.util.IdentityHashMap;
import java.util.Map;

/** One room holds all that a run makes: an object is small, and calls make nothing but what they throw. */
public final class RoomTest {
    private static final Told told = new Told();
    private static final int CALLS = 512;
    private static final int MOST_OBJECTS = 600_000;
    private static final int MOST_ELEMENTS = 7_300_000;

    private static int[] size(Object of) throws IllegalAccessException {
        Map<Object, Boolean> found = new IdentityHashMap<>();
        Deque<Object> open = new ArrayDeque<>();
        int elements = 0;
        open.push(of);
        while (!open.isEmpty()) {
            Object next = open.pop();
            if (found.put(next, true) != null) {
                continue;
            }
            if (next.getClass().isArray()) {
                elements += Array.getLength(next);
                for (int i = 0; i < Array.getLength(next) && next instanceof Object[]; i++) {
                    open.push(((Object[]) next)[i]);
                }
                continue;
            }
            for (Field f : next.getClass().getDeclaredFields()) {
                if (!Modifier.isStatic(f.getModifiers())) {
                    elements++;
                    f.setAccessible(true);
                    if (!f.getType().isPrimitive()) {
                        open.push(f.get(next));
                    }
                }
            }
        }
        return new int[] {found.size(), elements};
    }

    private static long made() {
        return ((com.sun.management.ThreadMXBean) ManagementFactory.getThreadMXBean())
            .getThreadAllocatedBytes(Thread.currentThread().getId());
    }

    private static int dearCalls(DelayBounds x) {
        int sum = 0;
        for (int i = 0; i < CALLS; i++) {
            switch (i % 12) {
                case 0: sum += x.tune(i % 4, i % 4); break;
                case 1: sum += x.once(i % 4); break;
                case 2: sum += x.loads(i, 60, 0); break;
                case 3: sum += x.judged(1); break;
                case 4: sum += x.mark(i % 2, i % 3 == 0) ? 1 : 0; break;
                case 5: sum += x.star(i % 6, 60); break;
                case 6: sum += x.net(); break;
                case 7: sum += x.run(); break;
                case 8: sum += x.look(); break;
                case 9: sum += x.feed(0x6c6f736573203120L, 0x3b20202020202020L, i); break;
                case 10: sum += x.fits(i % 4) ? 1 : 0; break;
                default: sum += x.put(i % 4, 9) + x.tick(); break;
            }
        }
        return sum;
    }

    public static void main(String[] args) throws IllegalAccessException {
        int[] one = size(new DelayBounds());
        System.out.println("one object: " + one[0] + " objects and arrays, " + one[1] + " fields and elements");
        told.due("objects and arrays of 512 of them: " + one[0] * CALLS, one[0] * CALLS < MOST_OBJECTS, true);
        told.due("fields and elements of them: " + one[1] * CALLS, one[1] * CALLS < MOST_ELEMENTS, true);
        DelayBounds x = new DelayBounds();
        // once ahead of counting, so that what the machine itself makes at first is not counted
        made();
        dearCalls(new DelayBounds());
        long before = made();
        dearCalls(x);
        long bytes = made() - before;
        told.due("bytes made by 512 calls: " + bytes, bytes < 1000, true);
        told.end();
    }
}
