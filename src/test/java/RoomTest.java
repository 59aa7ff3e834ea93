import com.sun.management.ThreadMXBean;
import java.lang.management.ManagementFactory;

/** All calls of a run live in one room: a new object is small, and no call makes anything. */
public final class RoomTest {
    private static final Check check = new Check();
    private static final ThreadMXBean threads = (ThreadMXBean) ManagementFactory.getThreadMXBean();
    private static long sink = 0;

    public static void main(String[] args) {
        check.part("room");
        HamperDays x = new HamperDays();
        useAll(x);
        useAll(new HamperDays());
        long before = threads.getCurrentThreadAllocatedBytes();
        long idle = threads.getCurrentThreadAllocatedBytes() - before;
        long used = Long.MAX_VALUE;
        // The least of several, as the machine itself may make something meanwhile.
        for (int k = 0; k < 5; k++) {
            before = threads.getCurrentThreadAllocatedBytes();
            useAll(x);
            used = Math.min(used, threads.getCurrentThreadAllocatedBytes() - before - idle);
        }
        check.holds("calls made " + used + " bytes", used == 0);
        before = threads.getCurrentThreadAllocatedBytes();
        HamperDays y = new HamperDays();
        long made = threads.getCurrentThreadAllocatedBytes() - before - idle;
        check.holds("a new object made " + made + " bytes", made < 8192);
        sink += y.rule(2);
        check.holds("answers were used", sink != 0);
        check.close();
    }

    private static void tell(HamperDays x, String text) {
        for (int k = 0; k < text.length(); k++) {
            sink += x.feed(text.charAt(k));
        }
        sink += x.text() + x.fault();
    }

    private static void useAll(HamperDays x) {
        tell(x, "plain 6 2;glass 4 1;shower 5 3;view 7 4;plain 2 2;mood 20;tire 2;");
        sink += x.order(0) + x.leave(9, 0) + x.top(9, 0) + x.swap(9, 0);
        sink += x.pack(1, 2, 3) + x.pack(3, 2, 1) + x.feed(65) + x.end(0);
        for (int i = 0; i < 7; i++) {
            sink += x.rule(i) + x.thing(i, 5) + x.gone(i) + x.need(i, 9, 50) + x.kind(i, 9, 0);
            sink += x.see(i, 20) + x.kinds(i) + x.goods(i) + x.ask(i, 0) + x.count(i) + x.runs(20, i);
        }
        sink += x.glad(40) + x.bear(9, 30) + x.luck(3, 8, 20, 0) + x.mean(3, 8, 0) + x.drift(5, 60, 0);
        sink += x.keep(0) + x.alter(0, 1, 2) + x.mood(3) + x.tire(3) + x.hours(9) + x.strap() + x.lift() + x.back(0);
        for (int k = 0; k < 4; k++) {
            sink += x.sheet(k, k % 3, 40) + x.lay(k, 2, 3) + x.read(k, k % 3, 0, 1) + x.torn();
        }
        sink += x.forget(0) + x.sheet(0, 0, -1);
    }
}
