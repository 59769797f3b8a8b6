import java.lang.management.ManagementFactory;
import java.lang.reflect.Array;
import java.lang.reflect.Field;
import java.lang.reflect.Modifier;
import java.util.IdentityHashMap;
import java.util.Map;

/** The room that all calls of a run share: an object's rows are made once and used again. */
public final class RoomTest {
    private static final long MOST_PARTS = 250_000;
    private static final long MOST_BYTES = 200_000;

    public static void main(String[] args) throws Exception {
        SnapHouse x = new SnapHouse();
        Map<Object, Boolean> made = new IdentityHashMap<>();
        long parts = count(x, made);
        Due.holds("fields and elements: " + parts, parts < MOST_PARTS);
        Due.holds("objects and arrays: " + made.size(), made.size() < 100);
        dearCalls(new SnapHouse());
        long before = allocated();
        dearCalls(x);
        long more = allocated() - before;
        Due.holds("bytes made by 500 dear calls: " + more, more < MOST_BYTES);
        Map<Object, Boolean> later = new IdentityHashMap<>();
        Due.is("fields and elements behind them", count(x, later), parts);
        Due.holds("the same objects behind them", later.keySet().stream().allMatch(made::containsKey));
        Due.end("RoomTest");
    }

    private static long allocated() {
        com.sun.management.ThreadMXBean bean = (com.sun.management.ThreadMXBean) ManagementFactory.getThreadMXBean();
        return bean.getThreadAllocatedBytes(Thread.currentThread().getId());
    }

    private static void dearCalls(SnapHouse x) {
        for (int k = 0; k < 50; k++) {
            x.cut(0);
            x.fill(k, 10_000);
            x.feed(k, 2, 3, 4, 5);
            x.again(9_990, 9_980);
            x.press();
            x.stream(6 + k);
            x.stream(20_000);
            x.take();
            x.unstream();
            x.open();
        }
    }

    private static long count(Object o, Map<Object, Boolean> seen) throws Exception {
        if (o == null || seen.put(o, true) != null) {
            return 0;
        }
        if (o.getClass().isArray()) {
            return Array.getLength(o);
        }
        long parts = 0;
        for (Field f : o.getClass().getDeclaredFields()) {
            if (!Modifier.isStatic(f.getModifiers())) {
                f.setAccessible(true);
                parts += 1 + (f.getType().isPrimitive() ? 0 : count(f.get(o), seen));
            }
        }
        return parts;
    }
}
