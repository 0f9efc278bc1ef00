import com.sun.management.ThreadMXBean;
import java.lang.management.ManagementFactory;

/** No call makes objects or arrays, but for the exceptions: all calls of a run live in one room. */
final class RoomTest {
    private static final int ROUNDS = 20;
    // The machine itself may make something on the way, but never anything for each call.
    private static final long SLACK = 2000;

    public static void main(String[] args) {
        ThreadMXBean meter = (ThreadMXBean) ManagementFactory.getThreadMXBean();
        long sum = useAll(new MarinaBerths());
        MarinaBerths x = new MarinaBerths();
        long before = meter.getCurrentThreadAllocatedBytes();
        sum += useAll(x);
        long made = meter.getCurrentThreadAllocatedBytes() - before;
        if (made > SLACK) {
            Checks.tell("the calls of a run made " + made + " bytes, with the sum " + sum);
        }
        Checks.finish("RoomTest");
    }

    private static long useAll(MarinaBerths x) {
        for (int k = 0; k < 16; k++) {
            x.addBerth(300, 100, k % 2 == 0, 3);
        }
        for (int k = 0; k < 20; k++) {
            x.addBoat(100, 100, k);
        }
        for (int k = 0; k < 8; k++) {
            x.place(k, 2 * k);
            x.await(k + 8);
        }
        long sum = 0;
        for (int k = 0; k < ROUNDS; k++) {
            sum += x.wouldGoAshore() + x.winterBerth(k % 20) + x.owesAfter(k % 20, 400) + x.bestBerth(k % 20);
            sum += x.pass(360) + x.checksum() + x.charge(k % 20, 1) + x.pay(k % 20, 1) + x.type('1') + x.fault();
            sum += x.clearText() + x.set(1, k) + x.groundsIn(k % 20) + x.greatestClearance();
            sum += x.undo() + x.undo() + x.undo() + x.undo();
        }
        return sum;
    }
}
