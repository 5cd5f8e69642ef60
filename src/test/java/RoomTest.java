import java.lang.management.ManagementFactory;

/** The dearest calls, 512 of them on one object: they make nothing, and end soon. */
public final class RoomTest {
    private static final int CALLS = 512;
    private static int wrong = 0;

    private static void must(boolean holds, String what) {
        if (holds) return;
        wrong++;
        System.out.println("not so: " + what);
    }

    /** As much of everything as there may be. */
    private static HillPaths full() {
        HillPaths x = new HillPaths();
        int[] cairns = {1, 12, 23, 34, 45, 56, 67, 78, 89, 90, 5, 16, 27, 38, 49, 50};
        for (int i = 0; i < 16; i++) x.stretch(cairns[i], 3 + i * 7 % 11, i % 10 * 10 + i % 3, i % 4);
        int[] trips = {5, 16, 27, 38, 49, 50, 61, 72, 83, 94, 90, 8};
        for (int i = 0; i < 12; i++) x.trip(trips[i], 9000 + i);
        String[] laws = {"leave 1|!(k=2)&w>(s+1)*2", "price l*(k+1)*(o+1)+((((((((k))))))))", "shut b>9999*9&y>0", "wash h*d-w"};
        for (int i = 0; i < 14; i++) {
            PromisesTest.write(x, laws[i % 4]);
            x.text(i / 4, 0);
        }
        for (int i = 0; i < 12; i++) x.donor(i / 4, 99999);
        for (int i = 0; i < 6; i++) x.choose(i * 2);
        int[] loads = {34, 35, 33, 26, 27, 51, 49, 34, 17, 41};
        for (int w : loads) x.load(w);
        for (int i = 0; i < 10; i++) x.person(1 + i * 7 % 15, 63 - i * 5 % 16);
        for (int i = 0; i < 4; i++) x.job(i, 23 - i);
        x.run(2);
        x.keep();
        return x;
    }

    private static int dearest(HillPaths x, int call, int i) {
        switch (call) {
            case 0: return x.lost(20);
            case 1: x.tell(-1); return x.check(20);
            case 2: return x.choice(30, 50000 + i, 0);
            case 3: return x.roster(-2);
            case 4: return x.flight(-1);
            case 5: return x.closing();
            case 6: return x.washed(i % 16);
            case 7: x.feed(0x6c656176, 0x6520312b, 0x28312929); return x.text(0, 0);
            case 8: return x.keep() + x.back();
            case 9: return x.way(i % 12, 0) + x.told(i % 16, 11) + x.without(0, i % 16);
            default: x.lay(0, 1, i % 16); x.counter(0, 1, 24); x.lay(1, 2, 0); return x.copy(0, 0, 0, 1, 23);
        }
    }

    public static void main(String[] args) {
        com.sun.management.ThreadMXBean beans =
            (com.sun.management.ThreadMXBean) ManagementFactory.getThreadMXBean();
        long me = Thread.currentThread().getId();
        full();
        long before = beans.getThreadAllocatedBytes(me);
        HillPaths made = new HillPaths();
        long made1 = beans.getThreadAllocatedBytes(me) - before;
        must(made.count(0) == 0 && made1 < 40_000, "a new object is small: " + made1 + " bytes");
        for (int call = 0; call <= 10; call++) {
            HillPaths x = full();
            dearest(x, call, 0);
            long start = beans.getThreadAllocatedBytes(me);
            long clock = System.nanoTime();
            for (int i = 0; i < CALLS; i++) dearest(x, call, i);
            long millis = (System.nanoTime() - clock) / 1_000_000;
            long bytes = beans.getThreadAllocatedBytes(me) - start;
            must(bytes < 20_000, "call " + call + " makes no objects: " + bytes + " bytes");
            must(millis < 20_000, "call " + call + " ends soon: " + millis + " ms");
        }
        System.out.println("a new object takes " + made1 + " bytes");
        System.out.println(wrong == 0 ? "the room is as due" : wrong + " faults");
        if (wrong != 0) System.exit(1);
    }
}
