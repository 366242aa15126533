import java.lang.management.ManagementFactory;
import java.lang.reflect.Array;
import java.lang.reflect.Field;
import java.lang.reflect.Modifier;
import java.util.ArrayDeque;
import java.util.Collections;
import java.util.Deque;
import java.util.IdentityHashMap;
import java.util.Set;

/** All calls of a run share one room: an object is made small, and its calls make nothing more. */
public final class RoomTest {
    private static final Check check = new Check();
    private static long objects = 0;
    private static long elements = 0;

    public static void main(String[] args) throws IllegalAccessException {
        measure(new SensorTree());
        System.out.println("one SensorTree: " + objects + " objects, " + elements + " fields and elements");
        check.due("few objects", objects <= 1500, true);
        check.due("few fields and elements", elements <= 60000, true);
        callsMakeNothing();
        check.finish("RoomTest");
    }

    private static void measure(Object start) throws IllegalAccessException {
        Set<Object> seen = Collections.newSetFromMap(new IdentityHashMap<>());
        Deque<Object> open = new ArrayDeque<>();
        open.add(start);
        seen.add(start);
        while (!open.isEmpty()) {
            Object o = open.remove();
            objects++;
            if (o.getClass().isArray()) {
                elements += Array.getLength(o);
                for (int i = 0; i < Array.getLength(o) && !o.getClass().getComponentType().isPrimitive(); i++) {
                    meet(Array.get(o, i), seen, open);
                }
            } else if (o.getClass().getName().startsWith("SensorTree")) {
                for (Field f : o.getClass().getDeclaredFields()) {
                    if (!Modifier.isStatic(f.getModifiers())) {
                        elements++;
                        f.setAccessible(true);
                        if (!f.getType().isPrimitive()) {
                            meet(f.get(o), seen, open);
                        }
                    }
                }
            }
        }
    }

    private static void meet(Object o, Set<Object> seen, Deque<Object> open) {
        if (o != null && seen.add(o)) {
            open.add(o);
        }
    }

    private static long made() {
        var threads = (com.sun.management.ThreadMXBean) ManagementFactory.getThreadMXBean();
        return threads.getThreadAllocatedBytes(Thread.currentThread().getId());
    }

    private static void callsMakeNothing() {
        SensorTree tree = new SensorTree();
        Check.type(tree, "post r;post a;post b;post c;post d;post e;post f;link r a 1;link r b 2;link a b 1;"
            + "link a c 3;link b d 1;link c d 1;link d e 1;link e f 2;link c f 1;goal costs;first 2;noise 10;");
        made();
        long ahead = made();
        tree.read();
        for (int i = 0; i < 30; i++) {
            tree.ticks(40);
            tree.join(i % 9, i % 4 > 1);
            tree.power(i % 7, i % 3 > 0);
            tree.cost(i % 9, 1 + i % 9);
            tree.send(i % 7, (i + 3) % 7);
            tree.repair();
            tree.hold(i % 3);
            tree.soon();
            tree.year(100, 10);
            tree.busy(200);
            tree.lull(200);
            tree.then(3, 200, 0);
            tree.reached();
            tree.needs(i % 7);
            tree.cut(i % 9);
            tree.undo();
        }
        tree.restore(1);
        tree.read();
        long bytes = made() - ahead;
        System.out.println("some 480 calls made " + bytes + " bytes");
        check.due("calls make nothing", bytes < 20000, true);
    }
}
