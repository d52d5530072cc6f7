import java.lang.reflect.Array;
import java.lang.reflect.Field;
import java.lang.reflect.Modifier;
import java.util.ArrayDeque;
import java.util.Collections;
import java.util.Deque;
import java.util.IdentityHashMap;
import java.util.Set;

/**
 * The room of a run: even a run that made as many objects as an object has calls stays within it,
 * and calls on an object neither make it grow nor take long where they are dearest.
 */
public final class RoomTest {
    private static final int CALLS = 512;
    private static final int MOST_OBJECTS = 600000;
    private static final int MOST_ELEMENTS = 7300000;

    private static int objects;
    private static int elements;

    public static void main(String[] args) throws ReflectiveOperationException {
        Checks checks = new Checks("RoomTest");
        TermServer server = new TermServer();
        measure(server);
        int objectsAtFirst = objects;
        int elementsAtFirst = elements;
        System.out.println("RoomTest: an object takes " + objects + " objects and " + elements + " elements");
        checks.due("too many objects", (long) objects * CALLS > MOST_OBJECTS, false);
        checks.due("too many elements", (long) elements * CALLS > MOST_ELEMENTS, false);
        fill(server);
        ask(checks, server);
        measure(server);
        checks.due("objects after many calls", objects, objectsAtFirst);
        checks.due("elements after many calls", elements, elementsAtFirst);
        checks.end();
    }

    /** As much as the limits leave room for, and so told that nearly all is linked with all. */
    private static void fill(TermServer server) {
        for (int d = 2; d < 60; d++) {
            server.name();
        }
        for (int d = 60; d < 160; d++) {
            server.some(d % 6, d - 58);
        }
        for (int a = 1; a <= 60; a++) {
            server.below(0, 100 + a - 1);
        }
        for (int r = 0; r < 6; r++) {
            for (int s = 0; s < 6; s++) {
                server.chain(r, s, (r + s) % 6);
            }
        }
        server.roleBelow(0, 1);
        server.below(59, 58);
        server.below(58, 57);
        server.below(59, 57);
    }

    private static void ask(Checks checks, TermServer server) {
        checks.due("axioms", server.count(2), 100);
        checks.due("descriptions", server.count(0), 160);
        for (int call = 0; call < 40; call++) {
            checks.due("linked", server.has(call, 5, 0), true);
            checks.due("empty ones", server.count(5), 1);
            checks.due("why", server.why(59, 57), 2);
            checks.due("common", server.common(59, 58, 0), 58);
            checks.due("direct", server.direct(59, 57), false);
            checks.due("retract", server.retract(call + 1), true);
        }
    }

    private static void measure(Object root) throws ReflectiveOperationException {
        objects = 0;
        elements = 0;
        Set<Object> seen = Collections.newSetFromMap(new IdentityHashMap<>());
        Deque<Object> open = new ArrayDeque<>();
        open.add(root);
        while (!open.isEmpty()) {
            Object next = open.remove();
            if (seen.add(next)) {
                objects++;
                if (next.getClass().isArray()) {
                    elements += Array.getLength(next);
                } else {
                    measureFields(next, open);
                }
            }
        }
    }

    private static void measureFields(Object owner, Deque<Object> open) throws ReflectiveOperationException {
        for (Field field : owner.getClass().getDeclaredFields()) {
            if (!Modifier.isStatic(field.getModifiers())) {
                elements++;
                field.setAccessible(true);
                if (!field.getType().isPrimitive() && field.get(owner) != null) {
                    open.add(field.get(owner));
                }
            }
        }
    }
}
