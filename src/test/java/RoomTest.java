import java.lang.management.ManagementFactory;
import java.lang.reflect.Array;
import java.lang.reflect.Field;
import java.lang.reflect.Modifier;
import java.util.ArrayDeque;
import java.util.Collections;
import java.util.IdentityHashMap;
import java.util.Set;

/** What an object takes of the room that all calls of a run share: all of it is made by its constructor. */
public final class RoomTest {
    private static final Due due = new Due();
    private static long objects;
    private static long elements;

    public static void main(String[] args) throws IllegalAccessException {
        count(new SealProbe());
        due.is("objects: " + objects, objects < 1000);
        due.is("fields and elements: " + elements, elements < 100000);
        long bytes = madeByCalls();
        due.is("bytes made by calls, but for what the measuring takes: " + bytes, bytes < 4096);
        due.close();
    }

    private static void count(Object root) throws IllegalAccessException {
        Set<Object> seen = Collections.newSetFromMap(new IdentityHashMap<>());
        ArrayDeque<Object> waiting = new ArrayDeque<>();
        waiting.add(root);
        while (!waiting.isEmpty()) {
            Object o = waiting.remove();
            if (!seen.add(o)) {
                continue;
            }
            objects++;
            Class<?> c = o.getClass();
            if (c.isArray()) {
                elements += Array.getLength(o);
                for (int i = 0; !c.getComponentType().isPrimitive() && i < Array.getLength(o); i++) {
                    waiting.add(Array.get(o, i));
                }
                continue;
            }
            for (Field f : c.getDeclaredFields()) {
                if (!Modifier.isStatic(f.getModifiers())) {
                    elements++;
                    f.setAccessible(true);
                    if (!f.getType().isPrimitive()) {
                        waiting.add(f.get(o));
                    }
                }
            }
        }
    }

    private static long madeByCalls() {
        com.sun.management.ThreadMXBean bean = (com.sun.management.ThreadMXBean) ManagementFactory.getThreadMXBean();
        long id = Thread.currentThread().getId();
        SealProbe x = new SealProbe();
        calls(x);
        x.clear();
        long before = bean.getThreadAllocatedBytes(id);
        long idle = bean.getThreadAllocatedBytes(id) - before;
        before = bean.getThreadAllocatedBytes(id);
        calls(x);
        return bean.getThreadAllocatedBytes(id) - before - idle;
    }

    private static void calls(SealProbe x) {
        x.agent(true);
        x.agent(false);
        int n = x.atom(1);
        x.know(n);
        x.role();
        int f = x.variable(0, 1, 1);
        int v = x.variable(0, 2, 3);
        int w = x.variable(0, 2, 0);
        x.event(0, true, x.of(6, f, 1));
        x.event(0, false, x.term(4, v, w));
        x.event(0, true, x.of(8, x.term(9, v, 0), w));
        x.session(0, 0, 0, 0);
        x.session(0, 0, 0, 0);
        x.agree(0, 0, 3);
        x.join(x.agree(0, 0, 0), 1, 1);
        for (int i = 0; i < 20; i++) {
            x.search();
            x.play(x.found(2));
            x.attack(0);
            x.row(i, i % 5);
            x.makes(i);
            x.broken(0);
            x.stands(0, 1);
            x.undo();
            x.begin();
            x.send(0);
            x.row(0, 4);
            x.receive(0, i);
            x.end();
        }
        x.secret(0, 0);
        x.search();
    }
}
