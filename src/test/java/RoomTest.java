import com.sun.management.ThreadMXBean;
import java.lang.management.ManagementFactory;

/** What the dearest runs of 512 calls make: far below what the room of many runs allows. */
public final class RoomTest {
    private static final int CALLS = 512;
    private static final long BYTES_AT_MOST = 64000;
    private static final ThreadMXBean THREADS = (ThreadMXBean) ManagementFactory.getThreadMXBean();

    public static void main(String[] args) {
        made("channels with as many states as there are calls", RoomTest::states);
        made("routes over a full net", RoomTest::routes);
        made("payments and their steps", RoomTest::payments);
        made("promises that are looked at", RoomTest::looks);
        Check.end();
    }

    /** The first time classes are loaded and constants made, so only the second time counts. */
    private static void made(String what, Check.Call run) {
        run.run();
        long before = THREADS.getCurrentThreadAllocatedBytes();
        run.run();
        long bytes = THREADS.getCurrentThreadAllocatedBytes() - before;
        Check.yes(what + " made " + bytes + " bytes: that is little", bytes <= BYTES_AT_MOST);
    }

    private static ChannelNet fullNet() {
        ChannelNet net = Nets.chain(6, 1000);
        net.open(0, 2, 1000, 1000);
        net.open(1, 4, 1000, 1000);
        net.open(3, 5, 1000, 1000);
        return net;
    }

    private static void states() {
        ChannelNet net = fullNet();
        for (int i = 8; i + 2 <= CALLS; i += 2) {
            int channel = i % 8;
            int payer = channel < 5 ? channel : new int[] {0, 1, 3}[channel - 5];
            if (net.channel(channel, 1) < 62) {
                net.drop(channel, net.promise(channel, payer, 1, i, 9));
            }
        }
    }

    private static void routes() {
        ChannelNet net = fullNet();
        for (int i = 8; i < CALLS; i++) {
            net.route(0, 5, 1 + i);
        }
    }

    private static void payments() {
        ChannelNet net = fullNet();
        net.tell(5, 7);
        for (int payment = 0; payment < 16; payment++) {
            net.pay(0, 5, 1, net.lock(7), 9);
            while (net.step(payment) != ChannelNet.DONE) {
                continue;
            }
        }
    }

    private static void looks() {
        ChannelNet net = fullNet();
        Nets.fillStates(net, 0, 0, 63);
        for (int i = 72; i < CALLS; i++) {
            net.state(0, i % 64, i % 4);
            net.made(0, i % 32, i % 4);
        }
    }
}
