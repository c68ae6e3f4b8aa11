import com.sun.management.ThreadMXBean;
import java.lang.management.ManagementFactory;

/** All calls of a run live in one room: a call makes nothing, and a new object little. */
public final class RoomTest {
    private static final Check c = new Check();
    private static final ThreadMXBean bean = (ThreadMXBean) ManagementFactory.getThreadMXBean();

    public static void main(String[] args) {
        c.part("room");
        everyCall();
        long before = made();
        RabbitList x = new RabbitList();
        long object = made() - before;
        c.due("a new object has under 64 KiB, but " + object, object < 65536 ? 1 : 0, 1);
        Check.tell(x, "r60,9;f0,20,9;b0,20,9;h0,20,9;l0,20,9;p0,20,9;h1,1,0;z0,20;z0,20;z0,20;z0,20;z0,20;z0,1;");
        before = made();
        dearCalls(x);
        long calls = made() - before;
        c.due("400 calls make next to nothing, but " + calls, calls < 4096 ? 1 : 0, 1);
        c.end();
    }

    private static long made() {
        return bean.getThreadAllocatedBytes(Thread.currentThread().getId());
    }

    // Once ahead, so that what the machine itself makes at first isn't counted.
    private static void everyCall() {
        dearCalls(Check.told("r0,0;p0,1,0;z0,1;"));
    }

    private static void dearCalls(RabbitList x) {
        for (int i = 0; i < 20; i++) {
            x.row(i % 8, 2, 40);
            x.set(i % 8, 3, i);
            x.copy(i % 8, 0, i % 8, 1, 39);
            x.taps(24);
            x.undo();
            x.sit(0, 0, 20);
            x.ahead(60, 3);
            x.when(0, 1);
            x.comes(5);
            x.order(0);
            x.pack(0);
            x.clear(5, 30, 1);
            x.bring(30, 0);
            x.who(0, 1, i % 8, 0, 12);
            x.wanted(0, 1, i % 8, 0, 12);
            x.wasOff(i % 8, 0, 12);
            x.wander(0, 30, 5, 0);
            x.drawn(60, 1 + i, 0);
            x.image(0);
            x.restore(0);
        }
    }
}
