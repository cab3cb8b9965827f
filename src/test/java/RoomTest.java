import java.lang.management.ManagementFactory;

/** What calls make: all of a run live in one room, so the dearest calls may make next to nothing. */
public final class RoomTest {
    private static final Due D = new Due();
    private static final com.sun.management.ThreadMXBean BEAN =
        (com.sun.management.ThreadMXBean) ManagementFactory.getThreadMXBean();

    public static void main(String[] args) {
        String rain = "9" + ",9".repeat(29);
        DitchOpen x = Due.dug("co5" + ",cb30w1f31o1,tb10o2".repeat(2) + ",co3", "y:d*w/2", "y:10", rain);
        Due.text(x, 2, "40,3");
        Due.feed(x, "y:[[[d+1]*2]]>3&!(m=2|r<1)?5;y:9");
        calls(x);
        long before = made();
        for (int i = 0; i < 12; i++) {
            calls(x);
        }
        long bytes = made() - before;
        System.out.println("twelve times all calls made " + bytes + " bytes");
        D.due("all calls make nothing", bytes < 20000, true);

        before = made();
        for (int i = 0; i < 10; i++) {
            new DitchOpen();
        }
        D.due("an object is some 6000 fields and elements", made() - before < 10 * 60000, true);
        D.finish("RoomTest");
    }

    private static long made() {
        return BEAN.getCurrentThreadAllocatedBytes();
    }

    private static void calls(DitchOpen x) {
        x.fault(0);
        x.fault(1);
        x.fault(2);
        x.image();
        x.day(30);
        x.run(1);
        x.tried(0, 63, -1);
        x.costs(0, 1, 2);
        x.first(0);
        x.when(0, 1);
        x.has(0, 3, 2, 3, 5, 1);
        x.rests(0, 3, 1, 3, -1);
        x.best(0, 3, 2, 3);
        x.staff(1, 30);
        x.where(0, 5, false);
        x.off(0, 1);
        x.falls(20, 1, 3, 0, 0, 9);
        x.sands(0, 0, 1);
        x.sinks(0, 0, 1, 999);
        x.raised(0, 0, 1);
        x.every(0, 5, 12, 1);
        x.order(0, true);
        x.turn(0);
        x.whose(0, 1, 1);
        x.notch(3, 1);
        x.hit(2, 3);
        x.longest(1);
        x.banks(0, 1, 5, 1);
        x.rise(0, 1);
        x.clean(1);
        x.back();
    }
}
