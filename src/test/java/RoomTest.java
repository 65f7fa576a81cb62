import java.lang.reflect.Array;
import java.lang.reflect.Field;
import java.lang.reflect.Modifier;
import java.util.ArrayDeque;
import java.util.Collections;
import java.util.IdentityHashMap;
import java.util.Set;

/** How many objects, fields and elements a house holds: all calls of a run live in one room. */
public final class RoomTest {
    private static final int CALLS = 512;
    private static final long OBJECTS = 600_000;
    private static final long CELLS = 7_300_000;

    private long objects;
    private long cells;

    private RoomTest() {
    }

    public static void main(String[] args) throws IllegalAccessException {
        RoomTest atFirst = held(new SaturdayKeep());
        SaturdayKeep used = used();
        RoomTest then = held(used);
        Check.due("objects behind a full run", atFirst.objects, then.objects);
        Check.due("cells behind a full run", atFirst.cells, then.cells);
        // A run may make an object by each of its calls, and each call may throw one exception.
        Check.yes("objects for a house a call", (then.objects + 1) * CALLS < OBJECTS);
        Check.yes("cells for a house a call", then.cells * CALLS < CELLS);
        System.out.println("a house holds " + then.objects + " objects, " + then.cells + " fields and elements");
        Check.end("RoomTest");
    }

    private static SaturdayKeep used() {
        SaturdayKeep x = Check.with("guest wish 10 at 3 doubt 60;guest wish 8 at 2 doubt 20 key;hole 2 3;bath 3;bore 60",
                "doubt 2 if eve or key;calm 1 if towers > 30");
        x.image();
        for (int n = 0; n < 30; n++) {
            x.days(60);
            x.buy(50);
            x.lodge(0);
            x.sent(1);
            x.span(60, true);
            x.undo();
            x.trial(60, true);
            x.first(0, 99);
        }
        x.back();
        x.days(60);
        return x;
    }

    private static RoomTest held(Object root) throws IllegalAccessException {
        RoomTest room = new RoomTest();
        Set<Object> found = Collections.newSetFromMap(new IdentityHashMap<>());
        ArrayDeque<Object> open = new ArrayDeque<>();
        open.add(root);
        while (!open.isEmpty()) {
            Object next = open.remove();
            if (found.add(next)) {
                room.objects++;
                room.look(next, open);
            }
        }
        return room;
    }

    private void look(Object at, ArrayDeque<Object> open) throws IllegalAccessException {
        if (at.getClass().isArray()) {
            cells += Array.getLength(at);
            for (int i = 0; i < Array.getLength(at) && !at.getClass().getComponentType().isPrimitive(); i++) {
                found(Array.get(at, i), open);
            }
            return;
        }
        for (Field field : at.getClass().getDeclaredFields()) {
            if (!Modifier.isStatic(field.getModifiers())) {
                cells++;
                field.setAccessible(true);
                if (!field.getType().isPrimitive()) {
                    found(field.get(at), open);
                }
            }
        }
    }

    private static void found(Object part, ArrayDeque<Object> open) {
        if (part != null) {
            open.add(part);
        }
    }
}
