import com.sun.management.ThreadMXBean;
import java.lang.management.ManagementFactory;

/** What the dearest calls make: a run of 512 calls lives in one room that nothing leaves. */
public final class RoomTest {
    private static final ThreadMXBean BEAN = (ThreadMXBean) ManagementFactory.getThreadMXBean();
    private static final long THREAD = Thread.currentThread().getId();

    public static void main(String[] args) {
        long before = bytes();
        PressureNet small = new PressureNet();
        long made = bytes() - before;
        Expect.same("a new object takes less than 300,000 bytes", made < 300_000 ? 1 : 0, 1);
        small.run(1);
        call(busy(), 30);
        PressureNet net = busy();
        before = bytes();
        call(net, 30);
        made = bytes() - before;
        System.out.println("RoomTest: the dearest calls made " + made + " bytes");
        Expect.same("the calls make next to nothing", made < 20_000 ? 1 : 0, 1);
        Expect.end("RoomTest");
    }

    private static long bytes() {
        return BEAN.getThreadAllocatedBytes(THREAD);
    }

    /** As many links, conflicts, flows and packets as there may be. */
    private static PressureNet busy() {
        PressureNet net = Expect.net("net 10;mode shadow;scheduler exact;bias 3");
        for (int i = 0; i < 14; i++) {
            net.addLink(i % 10, (i + 1 + i / 10) % 10, i % 5 + 1);
        }
        for (int i = 0; i < 14; i++) {
            net.setConflict(i, (i + 1) % 14, true);
            net.setConflict(i, (i + 3) % 14, true);
        }
        for (int i = 0; i < 6; i++) {
            net.addFlow(i, (i + 5) % 10, 15, 200);
        }
        net.run(50);
        return net;
    }

    private static void call(PressureNet net, int times) {
        for (int i = 0; i < times; i++) {
            net.sustainable(i % 6, 20);
            net.bestBias(50);
            net.bestExcess(50);
            net.bestSettings(50);
            net.forecast(50, 4);
            net.maxFlow(0, 9);
            net.overloaded();
            net.errorPosition();
            net.save();
            net.setRate(i % 6, i % 20);
            net.run(1);
            net.undo();
            net.restore();
        }
    }
}
