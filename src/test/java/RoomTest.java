import java.lang.management.ManagementFactory;
import java.lang.reflect.Array;
import java.lang.reflect.Field;
import java.lang.reflect.Modifier;
import java.util.ArrayDeque;
import java.util.Collections;
import java.util.IdentityHashMap;
import java.util.Set;

/** One run's room is some 600,000 objects and 7.3 million fields and elements: what an object holds, and what calls make. */
public final class RoomTest {
    private static final int MOST_OBJECTS = 500;
    private static final int MOST_ELEMENTS = 30_000;
    private static final long MOST_BYTES = 100_000;

    public static void main(String[] args) throws Exception {
        SameAfter x = new SameAfter();
        long[] held = held(x);
        bytes();
        long before = bytes();
        use(x);
        long after = bytes();
        System.out.println("RoomTest: " + held[0] + " objects, " + held[1] + " elements, " + (after - before) + " bytes made by calls");
        if (held[0] > MOST_OBJECTS || held[1] > MOST_ELEMENTS || after - before > MOST_BYTES) System.exit(1);
    }

    private static long bytes() {
        var threads = (com.sun.management.ThreadMXBean) ManagementFactory.getThreadMXBean();
        return threads.getThreadAllocatedBytes(Thread.currentThread().getId());
    }

    private static long[] held(Object root) throws Exception {
        Set<Object> seen = Collections.newSetFromMap(new IdentityHashMap<>());
        ArrayDeque<Object> open = new ArrayDeque<>();
        open.add(root);
        seen.add(root);
        long elements = 0;
        while (!open.isEmpty()) {
            Object o = open.poll();
            if (o.getClass().isArray()) {
                elements += Array.getLength(o);
                if (!o.getClass().getComponentType().isPrimitive()) {
                    for (Object part : (Object[]) o) if (part != null && seen.add(part)) open.add(part);
                }
                continue;
            }
            for (Field f : o.getClass().getDeclaredFields()) {
                if (Modifier.isStatic(f.getModifiers())) continue;
                elements++;
                f.setAccessible(true);
                Object part = f.getType().isPrimitive() ? null : f.get(o);
                if (part != null && seen.add(part)) open.add(part);
            }
        }
        return new long[] {seen.size(), elements};
    }

    private static void say(SameAfter x, String text) {
        for (int i = 0; i < text.length(); i += 4) {
            int n = 0;
            for (int k = 0; k < 4; k++) n = n << 8 | (i + k < text.length() ? text.charAt(i + k) : ' ');
            x.feed(n, 0x20202020, 0x20202020, 0x20202020, 0x20202020);
            x.end(Math.min(i + 4, text.length()));
        }
    }

    private static void use(SameAfter x) {
        say(x, "x*x->x");
        x.rule();
        for (int v = 20; v < 25; v++) x.item(v - 20, v);
        x.item(5, 0);
        say(x, "c=a;a=b;while b>0{out c*c;b=b-1;d=b;}if a<2{out d;}");
        x.program(0);
        for (int n = 0; n < 20; n++) {
            x.size(0, 3);
            x.run(0, n % 16, 3, 2);
            x.judge(0, 1, 3);
            x.ruleOf(0, n % 4);
            x.places(0, 0);
            x.apply(0, 0, 0, 1);
            x.make(n % 6, 0, 2);
            x.blame(0, 0);
            x.cut(n % 6, 0, 3);
            x.registers(0, 20 + n % 7);
            x.clash(0, 1, 2);
        }
    }
}
