import java.lang.management.ManagementFactory;
import java.lang.reflect.Array;
import java.lang.reflect.Field;
import java.lang.reflect.Modifier;
import java.util.Collections;
import java.util.IdentityHashMap;
import java.util.Set;

/** The room of a run: what an object is made of, and that no call makes anything more. */
public final class RoomTest {
    private static final Check CHECK = new Check("RoomTest");
    /** A run has at most 512 calls, all of which could be constructors. */
    private static final int MOST_MADE = 512;
    private static final int ROOM_OBJECTS = 600000;
    private static final int ROOM_ELEMENTS = 7300000;

    private int objects;
    private int elements;

    public static void main(String[] args) throws IllegalAccessException {
        RoomTest before = new RoomTest();
        MastMove move = new MastMove();
        before.measure(move);
        CHECK.due("objects of " + MOST_MADE + " have room", before.objects < ROOM_OBJECTS / MOST_MADE, true);
        CHECK.due("elements of " + MOST_MADE + " have room", before.elements < ROOM_ELEMENTS / MOST_MADE, true);
        useAll(move);
        RoomTest after = new RoomTest();
        after.measure(move);
        CHECK.due("objects behind all calls", after.objects, before.objects);
        CHECK.due("elements behind all calls", after.elements, before.elements);
        noCallMakesAnything();
        CHECK.finish();
    }

    private void measure(Object root) throws IllegalAccessException {
        walk(root, Collections.newSetFromMap(new IdentityHashMap<>()));
    }

    private void walk(Object thing, Set<Object> seen) throws IllegalAccessException {
        if (thing == null || !seen.add(thing)) {
            return;
        }
        objects++;
        if (thing.getClass().isArray()) {
            elements += Array.getLength(thing);
            for (int i = 0; thing instanceof Object[] things && i < things.length; i++) {
                walk(things[i], seen);
            }
            return;
        }
        for (Field field : thing.getClass().getDeclaredFields()) {
            if (!Modifier.isStatic(field.getModifiers())) {
                elements++;
                field.setAccessible(true);
                if (!field.getType().isPrimitive()) {
                    walk(field.get(thing), seen);
                }
            }
        }
    }

    private static void noCallMakesAnything() {
        com.sun.management.ThreadMXBean thread = (com.sun.management.ThreadMXBean) ManagementFactory.getThreadMXBean();
        // The machine makes the texts of the program when they are first used: those are its own.
        useAll(new MastMove());
        thread.getCurrentThreadAllocatedBytes();
        MastMove move = new MastMove();
        long before = thread.getCurrentThreadAllocatedBytes();
        int answers = useAll(move);
        long made = thread.getCurrentThreadAllocatedBytes() - before;
        CHECK.due("bytes made by all calls", made, 0);
        CHECK.due("the calls were carried out", answers != 0, true);
    }

    /** Every call, many of them often; the test itself must make nothing here. */
    private static int useAll(MastMove move) {
        int sum = move.terms(500, 20);
        for (int n = 0; n < 11; n++) {
            sum += move.mast(9 * n, 5, 900, n % 3 - 1, n % 2 == 0, n);
            sum += move.abroad(9 * n, 9, 900, n, 5 * n);
        }
        for (int n = 0; n < 17; n++) {
            sum += move.area(6 * n, 7, 100 * n, n, n) + move.aim(n, n / 2);
            sum += move.row(n % 4, n % 3, 60) + move.write(n % 4, n, 3L) + move.paste(n % 4, 0, 1, 3, 20);
        }
        sum += move.turn() + move.poor(0) + (move.tear(0) ? 1 : 0);
        for (int n = 1; n <= 3; n++) {
            sum += move.plan(n, 21L) + move.channels();
        }
        sum += move.deliver(100000);
        for (int n = 0; n < 20; n++) {
            // "give (aged+2)*9;cap " and, at times, "77" behind it: else it has a fault.
            sum += move.feed(0x67697665, 0x20286167, 0x65642b32, 0x292a393b, 0x63617020);
            sum += move.feed(0x37372020, 0, 0, 0, 0) + move.end(n % 2 == 0 ? 22 : 20) + move.law() + move.fault();
            sum += move.go() + (move.fail(n % 10, n % 3 == 0) ? 1 : 0) + move.blame(1 << n);
            sum += move.count(n) + move.on(n) + move.picture(n) + move.snow(n) + move.hurt(n);
            sum += move.mastOf(n, 6) + move.areaOf(n, 3) + move.weekOf(n) + move.channelOf(n) + move.strength(n, n);
        }
        return sum;
    }
}
