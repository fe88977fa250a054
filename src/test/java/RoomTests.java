import java.lang.management.ManagementFactory;
import java.lang.reflect.Array;
import java.lang.reflect.Field;
import java.lang.reflect.Modifier;
import java.util.Collections;
import java.util.IdentityHashMap;
import java.util.Set;

/** How much room an object takes, and that calls on it make nothing more. */
public final class RoomTests {
    private static final int ROOM_OBJECTS = 600_000;
    private static final int ROOM_ELEMENTS = 7_300_000;
    private static final int MOST_CALLS = 512;

    private static int objects = 0;
    private static int elements = 0;

    public static void main(String[] args) throws IllegalAccessException {
        CircuitDesk desk = new CircuitDesk();
        measure(desk, Collections.newSetFromMap(new IdentityHashMap<>()));
        boolean fits = objects * MOST_CALLS < ROOM_OBJECTS && elements * MOST_CALLS < ROOM_ELEMENTS;
        System.out.println("an object takes " + objects + " objects and " + elements + " elements");
        if (!fits) {
            System.out.println("so many objects as a run may have calls do not fit into its room");
        }
        boolean quiet = callsMakeNothing();
        if (!fits || !quiet) {
            System.exit(1);
        }
    }

    private static void measure(Object o, Set<Object> seen) throws IllegalAccessException {
        if (o == null || !seen.add(o)) {
            return;
        }
        objects++;
        if (o.getClass().isArray()) {
            elements += Array.getLength(o);
            return;
        }
        for (Field f : o.getClass().getDeclaredFields()) {
            if (!Modifier.isStatic(f.getModifiers())) {
                elements++;
                f.setAccessible(true);
                if (!f.getType().isPrimitive()) {
                    measure(f.get(o), seen);
                }
            }
        }
    }

    private static boolean callsMakeNothing() {
        use(new CircuitDesk());
        CircuitDesk desk = new CircuitDesk();
        long before = bytesMade();
        use(desk);
        long made = bytesMade() - before;
        System.out.println("a run of calls makes " + made + " bytes");
        return made < 50_000;
    }

    private static long bytesMade() {
        return ((com.sun.management.ThreadMXBean) ManagementFactory.getThreadMXBean())
                .getThreadAllocatedBytes(Thread.currentThread().getId());
    }

    private static void use(CircuitDesk desk) {
        desk.signal(0, 8, 0);
        desk.signal(2, 8, 1);
        for (int i = 2; i < 14; i++) {
            desk.node(i % 2 == 0 ? 5 : 7, i - 1, i - 2, 0);
        }
        desk.state(0, 1, 12);
        for (int i = 0; i < 100; i++) {
            desk.compile();
            desk.input(0, i);
            desk.clock(30);
            desk.value(13, true);
            desk.count(5);
        }
    }
}
