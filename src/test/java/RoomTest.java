import java.lang.management.ManagementFactory;
import java.lang.reflect.Array;
import java.lang.reflect.Field;
import java.lang.reflect.Modifier;
import java.util.ArrayDeque;
import java.util.Collections;
import java.util.Deque;
import java.util.IdentityHashMap;
import java.util.Set;

/** All calls of a run live in one room: an object's rows are few, and calls make no others. */
public final class RoomTest {
    private static final Check CHECK = new Check();
    private static final String LEND_ALL = "lend 0 1 0 9;".repeat(20);
    private static final String HALL = "person 0 9;person 1 9;person 2 9;person 3 9;person 0 9;person 1 9;person 2 9;"
            + "person 3 9;person 0 9;person 1 99;" + "door 2;door 3;door 4;" + "thing 0 3;".repeat(5)
            + "thing 1 5;".repeat(5) + "outside 2 9 0 1;outside 3 9 1 2;outside 4 9 2 3;outside 5 9 0 4;"
            + "motion 9 341 682;".repeat(8) + "law 1;";

    private int objects;
    private int elements;
    private static long sum;

    public static void main(String[] args) throws IllegalAccessException {
        anObjectIsSmall();
        aRunDoesNotGrow();
        callsMakeNothing();
        CHECK.end("RoomTest");
    }

    private static RoomTest counted(WeighedHall x) throws IllegalAccessException {
        RoomTest room = new RoomTest();
        room.walk(x);
        return room;
    }

    private void walk(Object first) throws IllegalAccessException {
        Set<Object> seen = Collections.newSetFromMap(new IdentityHashMap<>());
        Deque<Object> open = new ArrayDeque<>();
        seen.add(first);
        open.add(first);
        while (!open.isEmpty()) {
            Object each = open.remove();
            objects++;
            if (each.getClass().isArray()) {
                int length = Array.getLength(each);
                elements += length;
                for (int i = 0; i < length; i++) {
                    note(Array.get(each, i), each.getClass().getComponentType(), seen, open);
                }
            } else {
                for (Field field : each.getClass().getDeclaredFields()) {
                    if (!Modifier.isStatic(field.getModifiers())) {
                        elements++;
                        field.setAccessible(true);
                        note(field.get(each), field.getType(), seen, open);
                    }
                }
            }
        }
    }

    private static void note(Object value, Class<?> type, Set<Object> seen, Deque<Object> open) {
        if (!type.isPrimitive() && value != null && seen.add(value)) {
            open.add(value);
        }
    }

    private static void anObjectIsSmall() throws IllegalAccessException {
        CHECK.says("some 600,000 objects and arrays, 7.3 million fields and elements in all");
        RoomTest room = counted(new WeighedHall());
        CHECK.due("objects and arrays of a new object below 200: " + room.objects, room.objects < 200, true);
        CHECK.due("fields and elements of it below 20,000: " + room.elements, room.elements < 20000, true);
    }

    private static void aRunDoesNotGrow() throws IllegalAccessException {
        CHECK.says("make rows in constructors and use them again");
        WeighedHall x = new WeighedHall();
        RoomTest before = counted(x);
        askAll(x);
        RoomTest behind = counted(x);
        CHECK.due("objects behind a run not above those ahead of it", behind.objects <= before.objects, true);
        CHECK.due("fields and elements likewise", behind.elements <= before.elements, true);
    }

    /** The machine's own count of bytes; where it keeps none, it says so by a number below 0. */
    private static void callsMakeNothing() {
        if (!(ManagementFactory.getThreadMXBean() instanceof com.sun.management.ThreadMXBean)) {
            return;
        }
        CHECK.says("count your dearest call's objects");
        com.sun.management.ThreadMXBean counter =
                (com.sun.management.ThreadMXBean) ManagementFactory.getThreadMXBean();
        long thread = Thread.currentThread().getId();
        WeighedHall x = new WeighedHall();
        Check.hall(x, HALL);
        Check.lend(x, LEND_ALL);
        askMuch(x);
        x.forget();
        long before = counter.getThreadAllocatedBytes(thread);
        askMuch(x);
        long made = counter.getThreadAllocatedBytes(thread) - before;
        CHECK.due("bytes made by a run of right calls below 2,000: " + made, made < 2000, true);
    }

    private static void askAll(WeighedHall x) {
        CHECK.due("persons", Check.hall(x, HALL), 10);
        CHECK.due("lendings", Check.lend(x, LEND_ALL), 20);
        askMuch(x);
        CHECK.due("a fault", Check.hall(x, "person 9 9;"), -8);
        CHECK.illegal("told(6)", () -> x.told(6));
        CHECK.noSuch("spent(10)", () -> x.spent(10));
        CHECK.due("another hall", Check.hall(x, "person 0 9;"), 1);
    }

    private static void askMuch(WeighedHall x) {
        for (int i = 0; i < 9; i++) {
            sum += x.vote(1 << i, 2 << i, i) + x.hollow(0) + x.hollow(3);
            sum += x.power(i) + x.spent(i) + x.person(i, 2) + x.pounds(i, 9, 0) + x.pounds(i, 9, 1);
            sum += x.decides(i) + x.holds(i, 9) + x.thing(i, 3);
        }
        for (int i = 0; i < 8; i++) {
            sum += x.least(i, 0) + x.least(i, 1) + x.tired(i) + (x.speech(i, 60) ? 1 : 0) + x.motion(i, 1, 0);
        }
        for (int i = 0; i < 3; i++) {
            sum += x.bring(i, 999) + x.passes(i) + x.unlike(i, 0) + x.sums(119, i) + x.image() + x.count(i);
            sum += x.owed(i, 9999, 0) + x.together(i) + x.told(i) + (x.wins(i) ? 1 : 0) + x.status(i);
        }
        for (int i = 0; i < 3; i++) {
            sum += x.restore() + x.powers() + x.fault();
        }
        sum += x.feed(0, 0, 0, 0, 0) + x.hall(20) + x.feed(0, 0, 0, 0, 0) + x.lend(20);
    }
}
