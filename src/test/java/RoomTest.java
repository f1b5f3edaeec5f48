import java.lang.management.ManagementFactory;

/** All calls of a run share one room: rows are made with the object, and calls make nothing that counts. */
public final class RoomTest {
    private static final com.sun.management.ThreadMXBean THREADS =
            (com.sun.management.ThreadMXBean) ManagementFactory.getThreadMXBean();

    private RoomTest() {
    }

    private static long allocated() {
        return THREADS.getThreadAllocatedBytes(Thread.currentThread().getId());
    }

    private static long dearCalls(StrikeBench bench, int rounds) {
        long sum = 0;
        for (int i = 0; i < rounds; i++) {
            sum += bench.rule(2, i & 1) + bench.value(0) + bench.more(1, true) + bench.without(0, 3);
            sum += bench.other(1, 2) + bench.plain(0, 3) + bench.line(5) + bench.states() + bench.once(0);
            sum += bench.undo();
        }
        return sum;
    }

    public static void main(String[] args) {
        StrikeBench bench = new StrikeBench();
        String text = "juror 1 2 20 0;juror 3 -4 30 1;".repeat(5) + "seats 6;spare 3;turns ababab;cause a kin = 2;";
        byte[] bytes = Bench.bytes(text);
        dearCalls(Bench.of(text), 50);

        long before = allocated();
        for (int i = 0; i < 20; i++) {
            Bench.feed(bench, bytes);
            bench.text(bytes.length);
        }
        dearCalls(bench, 50);
        long byCalls = allocated() - before;
        Bench.holds("calls made " + byCalls + " bytes", byCalls < 20000);

        before = allocated();
        StrikeBench another = new StrikeBench();
        long byConstructor = allocated() - before;
        Bench.holds("a new object has " + byConstructor + " bytes", byConstructor < 100000);
        Bench.holds("it is new", another.told(0) == 0);
        Bench.end();
    }
}
