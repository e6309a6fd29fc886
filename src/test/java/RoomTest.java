import java.lang.management.ManagementFactory;
import java.lang.reflect.Array;
import java.lang.reflect.Field;
import java.lang.reflect.Modifier;
import java.util.Collections;
import java.util.IdentityHashMap;
import java.util.Set;

/** All calls of one run live in one room: the object itself is counted, and calls make nothing. */
public final class RoomTest {
    private static long objects;
    private static long elements;

    public static void main(String[] args) throws Exception {
        PackingHouse x = new PackingHouse();
        count(x, Collections.newSetFromMap(new IdentityHashMap<>()), 0);
        System.out.println("a new object: " + objects + " objects and arrays, " + elements + " fields and elements");
        Check.holds("few objects", objects < 2000);
        Check.holds("few elements", elements < 1000000);
        callsMakeNothing();
        Check.end("RoomTest");
    }

    private static void count(Object it, Set<Object> seen, int depth) throws IllegalAccessException {
        if (it == null || !seen.add(it) || depth > 20) {
            return;
        }
        objects++;
        Class<?> type = it.getClass();
        if (type.isArray()) {
            int n = Array.getLength(it);
            elements += n;
            for (int i = 0; i < n && !type.getComponentType().isPrimitive(); i++) {
                count(Array.get(it, i), seen, depth + 1);
            }
            return;
        }
        for (Field field : type.getDeclaredFields()) {
            if (!Modifier.isStatic(field.getModifiers())) {
                elements++;
                if (!field.getType().isPrimitive()) {
                    field.setAccessible(true);
                    count(field.get(it), seen, depth + 1);
                }
            }
        }
    }

    private static void callsMakeNothing() {
        if (!(ManagementFactory.getThreadMXBean() instanceof com.sun.management.ThreadMXBean)) {
            System.out.println("this machine does not tell what a thread makes");
            return;
        }
        com.sun.management.ThreadMXBean bean = (com.sun.management.ThreadMXBean) ManagementFactory.getThreadMXBean();
        long own = Thread.currentThread().getId();
        PackingHouse x = new PackingHouse();
        bean.getThreadAllocatedBytes(own);
        everyCall(x);
        long before = bean.getThreadAllocatedBytes(own);
        everyCall(x);
        long made = bean.getThreadAllocatedBytes(own) - before;
        System.out.println("every call once: " + made + " octets made");
        Check.holds("calls make nothing", made < 1000);
    }

    private static void everyCall(PackingHouse x) {
        for (int kind = 1; kind <= 10; kind++) {
            x.cut(0);
            x.feed(0x0102030405060708L, 8);
            x.fill(2, 3000, 5);
            x.alter(3, 9);
            x.octet(3);
            x.sum(kind % 4);
            int s = x.pack(kind, kind >= 3 && kind <= 5 ? kind - 1 : 0);
            x.load(s);
            int t = x.open(kind);
            x.length(t);
            x.at(t, 1);
            x.differ(s, t);
            x.fault(1);
            x.token(0, 0);
            x.bits();
            x.name('n', 1);
            x.entry(t, 1, 1);
            int d = x.delta(s, t);
            x.load(d);
            x.apply(s);
            for (int i = 1; i <= 12; i++) {
                x.drop(i);
            }
        }
        for (int kind = 11; kind <= 13; kind++) {
            for (int level = 0; level <= (kind == 13 ? 4 : 0); level++) {
                int s = x.write(kind, level);
                x.load(s);
                x.read(kind);
                x.told(0, 4);
                x.nameAt(0, 0);
                x.drop(x.extract(0));
                x.drop(s);
            }
        }
        x.wipe();
        x.protect(8, 8);
        x.part(0, 0);
        x.lose(0);
        x.spoil(1, 0, 1);
        x.repair();
        x.drop(x.whole());
        int n = x.save();
        x.drop(x.restore(n));
        x.shared(n, n);
        x.store(0);
        x.forget(n);
    }
}
