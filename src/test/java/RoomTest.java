import java.lang.management.ManagementFactory;
import java.lang.reflect.Array;
import java.lang.reflect.Field;
import java.lang.reflect.Modifier;
import java.util.Collections;
import java.util.IdentityHashMap;
import java.util.Set;

/** All calls of a run share one room: rows are made with the object, and calls make nothing that counts. */
public final class RoomTest {
    private static final com.sun.management.ThreadMXBean THREADS =
            (com.sun.management.ThreadMXBean) ManagementFactory.getThreadMXBean();

    /** The room of a run, and the most objects that a run of 512 calls could make if each call made one. */
    private static final int OBJECTS_MOST = 600_000;
    private static final int PARTS_MOST = 7_300_000;
    private static final int MADE_MOST = 512;

    private final Set<Object> met = Collections.newSetFromMap(new IdentityHashMap<>());
    private int parts;

    private RoomTest() {
    }

    /** Counts what hangs on an object: its fields and elements, and those of what they hold. */
    private void count(Object thing) throws IllegalAccessException {
        if (thing == null || !met.add(thing)) {
            return;
        }
        Class<?> kind = thing.getClass();
        if (kind.isArray()) {
            int length = Array.getLength(thing);
            parts += length;
            for (int i = 0; i < length && !kind.getComponentType().isPrimitive(); i++) {
                count(Array.get(thing, i));
            }
            return;
        }
        for (Field field : kind.getDeclaredFields()) {
            if (!Modifier.isStatic(field.getModifiers())) {
                parts++;
                field.setAccessible(true);
                if (!field.getType().isPrimitive()) {
                    count(field.get(thing));
                }
            }
        }
    }

    private static void manyFit(String what, StrikeBench bench) throws IllegalAccessException {
        RoomTest room = new RoomTest();
        room.count(bench);
        Bench.holds(what + " has " + room.met.size() + " objects", room.met.size() <= OBJECTS_MOST / MADE_MOST);
        Bench.holds(what + " has " + room.parts + " fields and elements", room.parts <= PARTS_MOST / MADE_MOST);
    }

    private static long allocated() {
        return THREADS.getThreadAllocatedBytes(Thread.currentThread().getId());
    }

    private static long dearCalls(StrikeBench bench, int rounds) {
        long sum = 0;
        for (int i = 0; i < rounds; i++) {
            sum += bench.rule(2, i & 1) + bench.value(0) + bench.more(1, true) + bench.without(0, 3);
            sum += bench.other(1, 2) + bench.plain(0, 3) + bench.line(5) + bench.states() + bench.once(0);
            sum += bench.undo();
        }
        return sum;
    }

    public static void main(String[] args) throws IllegalAccessException {
        StrikeBench bench = new StrikeBench();
        String text = "juror 1 2 20 0;juror 3 -4 30 1;".repeat(5) + "seats 6;spare 3;turns ababab;cause a kin = 2;";
        byte[] bytes = Bench.bytes(text);
        dearCalls(Bench.of(text), 50);

        long before = allocated();
        for (int i = 0; i < 20; i++) {
            Bench.feed(bench, bytes);
            bench.text(bytes.length);
        }
        dearCalls(bench, 50);
        long byCalls = allocated() - before;
        Bench.holds("calls made " + byCalls + " bytes", byCalls < 20000);

        before = allocated();
        StrikeBench another = new StrikeBench();
        long byConstructor = allocated() - before;
        Bench.holds("a new object has " + byConstructor + " bytes", byConstructor < 100000);
        Bench.holds("it is new", another.told(0) == 0);
        manyFit("a new object", another);
        manyFit("a used object", bench);
        Bench.end();
    }
}
