import com.sun.management.ThreadMXBean;
import java.lang.management.ManagementFactory;
import java.lang.reflect.Array;
import java.lang.reflect.Field;
import java.lang.reflect.Modifier;
import java.util.ArrayDeque;
import java.util.Collections;
import java.util.Deque;
import java.util.IdentityHashMap;
import java.util.Set;

/** A run lives in one room: a new object is small, and no call makes an object. */
public final class RoomTest {
    private static final Check CHECK = new Check();
    private static int sum;

    public static void main(String[] args) throws IllegalAccessException {
        CoatTraces x = new CoatTraces();
        allCalls(x);
        sizeOf(x);
        callsMakeNothing();
        CHECK.end();
        if (sum == Integer.MIN_VALUE) {
            System.out.println("the sum is used, so that no call is left out");
        }
    }

    private static void sizeOf(Object root) throws IllegalAccessException {
        Set<Object> seen = Collections.newSetFromMap(new IdentityHashMap<>());
        Deque<Object> open = new ArrayDeque<>();
        open.add(root);
        seen.add(root);
        int cells = 0;
        while (!open.isEmpty()) {
            Object o = open.remove();
            if (o.getClass().isArray()) {
                cells += Array.getLength(o);
                CHECK.holds("arrays of numbers alone", o.getClass().getComponentType().isPrimitive());
                continue;
            }
            for (Field f : o.getClass().getDeclaredFields()) {
                if (Modifier.isStatic(f.getModifiers())) {
                    continue;
                }
                cells++;
                f.setAccessible(true);
                Object inside = f.getType().isPrimitive() ? null : f.get(o);
                if (inside != null && seen.add(inside)) {
                    open.add(inside);
                }
            }
        }
        System.out.println("one object: " + seen.size() + " objects and arrays, " + cells + " fields and elements");
        CHECK.holds("a ten thousandth of the room's objects", seen.size() <= 60);
        CHECK.holds("a thousandth of the room's elements", cells <= 7300);
    }

    private static void callsMakeNothing() {
        ThreadMXBean bean = (ThreadMXBean) ManagementFactory.getThreadMXBean();
        if (!bean.isThreadAllocatedMemorySupported()) {
            System.out.println("this machine does not count what is made");
            return;
        }
        bean.setThreadAllocatedMemoryEnabled(true);
        long self = Thread.currentThread().getId();
        CoatTraces x = new CoatTraces();
        bean.getThreadAllocatedBytes(self);
        long before = bean.getThreadAllocatedBytes(self);
        for (int i = 0; i < 50; i++) {
            allCalls(x);
        }
        long made = bean.getThreadAllocatedBytes(self) - before;
        CHECK.holds("bytes made by " + 50 + " rounds of all calls: " + made, made < 1000);
    }

    private static void allCalls(CoatTraces x) {
        sum += x.seed(99) + x.drift(9) + x.put(0, 3, -1, -1) + x.born(0, 100, 300) + x.died(0, 150, 320) + x.rule(2) + x.sign(4) + x.sign(10);
        for (int what = -1; what < 17; what++) {
            for (int p = -1; p < 17; p++) {
                sum += x.told(what) + x.person(p, what) + x.quarter(p, what, 0) + x.quarter(p, what, 1);
                sum += x.kin(p, what, 0) + x.kin(p, what, 1) + x.would(p, what) + x.signAt(p);
            }
        }
        sum += x.dated(100, 300) + x.write(0, 0, 3) + x.undo(2) + x.keep(0) + x.wipe() + x.keep(1) + x.goBack(0) + x.goBack(1) + x.tear() + x.drift(3);
    }
}
