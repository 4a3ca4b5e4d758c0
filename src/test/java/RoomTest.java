import java.lang.management.ManagementFactory;

/** One room for all calls of a run: the dearest calls make next to no objects, and an object is made of few. */
public final class RoomTest {
    private static final Checks C = new Checks("RoomTest");
    private static final long MOST_BYTES = 4L << 20;

    public static void main(String[] args) {
        run(dearest(), 40);
        long before = bytes();
        run(dearest(), 500);
        long made = bytes() - before;
        System.out.println("RoomTest: " + made + " bytes for one object and its 500 rounds of calls");
        C.due("the room of a run, not " + made, true, made < MOST_BYTES);
        C.finish();
    }

    private static long bytes() {
        com.sun.management.ThreadMXBean bean = (com.sun.management.ThreadMXBean) ManagementFactory.getThreadMXBean();
        return bean.getThreadAllocatedBytes(Thread.currentThread().getId());
    }

    private static LinenGuilt dearest() {
        LinenGuilt x = Checks.told(Checks.times(12, "cell 9;") + Checks.times(6, "strip 1 99;") + Checks.times(8, "deed 1;"),
                "lay 0 0;lay 1 2;lay 2 4;lay 3 6;lay 4 8;lay 5 10;");
        Checks.law(x, "1" + Checks.times(37, "+1*0"));
        return x;
    }

    private static void run(LinenGuilt x, int rounds) {
        long sum = 0;
        for (int i = 0; i < rounds; i++) {
            sum += x.feed(0x6461793b, 0x20202020, 0x20202020, 0x20202020, 0x20202020);
            sum += x.work(20) + x.image() + x.restore() + x.undo();
            sum += x.pack(63) + x.packed(63, 5) + x.wets(20) + x.wetted(20, 5) + x.likely(0, 8, 3, 8, 1);
            sum += x.mayBe(4, 0) + x.ask(4, 0) + x.boxes() + x.thief(0) + x.white(0) + x.whiteYards(36);
            sum += x.ahead(99, 0) + x.sunniest(0, 0) + x.summer(i, 9, 8, 8, 0) + x.span(i, 2, 9, 8, 8, 0, 0);
        }
        C.due("they answer", true, sum != 0);
    }
}
