/** Promises 1, 3 to 6, 21, 23, 24: a new object, fees, secrets, watching, height, coins. */
public final class NodesTest {
    public static void main(String[] args) {
        newObject();
        feesChangeAmountsAndDeadlines();
        locks();
        tellAndKnows();
        watchOnAndOff();
        heightAndCoins();
        Check.end();
    }

    private static void newObject() {
        ChannelNet net = new ChannelNet();
        Check.same("height at first", net.height(), 0);
        Check.same("channels at first", net.channels(), 0);
        Check.same("hops at first", net.hop(ChannelNet.NONE), 0);
        for (int node = 0; node < 6; node++) {
            Check.same("coins at first", net.coins(node), 1000000);
            Check.no("a secret is known at first", net.knows(node, net.lock(0)));
            Check.no("lock 0 is known at first", net.knows(node, 0));
        }
        net.open(0, 1, 100, 0);
        net.open(1, 2, 100, 0);
        net.open(2, 3, 100, 0);
        Check.same("no fee at first", net.route(0, 3, 100), 100);
        net.pay(0, 3, 100, 1, 5);
        net.step(0);
        net.step(0);
        net.step(0);
        Check.same("delta 1 at first", net.made(0, 0, 2), 7);
        Check.same("delta 1 at first", net.made(1, 0, 2), 6);
        Check.same("delta of the last channel", net.made(2, 0, 2), 5);
        ChannelNet other = new ChannelNet();
        other.open(0, 1, 5, 5);
        other.promise(0, 0, 1, 0, 9);
        other.publish(0, 0, 0);
        Check.same("nobody watches at first", other.grow(20), 0);
    }

    private static void feesChangeAmountsAndDeadlines() {
        ChannelNet net = new ChannelNet();
        net.open(0, 1, 900000, 0);
        net.open(1, 2, 900000, 0);
        net.fees(1, 10000, 1000000, 100);
        Check.same("the dearest fee", net.route(0, 2, 400000), 810000);
        net.pay(0, 2, 400000, 1, 5);
        net.step(0);
        Check.same("the longest delta", net.made(0, 0, 2), 105);
        net.fees(1, 0, 0, 1);
        Check.same("no fee", net.route(0, 2, 90000), 90000);
        net.fees(1, 0, 999999, 1);
        Check.same("parts are cut off", net.route(0, 2, 1), 1);
        net.fees(1, 0, 500000, 1);
        Check.same("parts are cut off", net.route(0, 2, 3), 4);
        net.fees(0, 10000, 1000000, 100);
        net.fees(2, 10000, 1000000, 100);
        Check.same("the ends take no fee", net.route(0, 2, 3), 4);
    }

    private static void locks() {
        ChannelNet net = new ChannelNet();
        Check.same("lock(0)", net.lock(0), 0);
        Check.same("lock(77)", net.lock(77), -3309976851911843051L);
        Check.same("lock(7)", net.lock(7), 4913690185442708541L);
        Check.same("lock(100)", net.lock(100), 8731659541785116433L);
        long[] secrets = {-1, Long.MIN_VALUE, Long.MAX_VALUE, 1L << 40};
        for (long secret : secrets) {
            Check.same("lock(" + secret + ")", net.lock(secret), lockByBits(secret));
        }
    }

    private static long lockByBits(long secret) {
        long x = secret * 7046029254386353131L;
        x ^= (x >> 29) & ((1L << 35) - 1);
        x *= 4768777513237032717L;
        return x ^ ((x >> 32) & ((1L << 32) - 1));
    }

    private static void tellAndKnows() {
        ChannelNet net = new ChannelNet();
        long lock = net.tell(3, 5);
        Check.same("tell answers the lock", lock, net.lock(5));
        for (int node = 0; node < 6; node++) {
            Check.same("who knows it", net.knows(node, lock) ? 1 : 0, node == 3 ? 1 : 0);
        }
        net.tell(0, 5);
        Check.yes("node 0 was told, too", net.knows(0, lock));
        Check.no("a secret is not its lock", net.knows(3, 5));
        Check.same("secret 0 has lock 0", net.tell(5, 0), 0);
        Check.yes("secret 0 is one, too", net.knows(5, 0));
        Check.no("only node 5 knows it", net.knows(4, 0));
    }

    private static void watchOnAndOff() {
        ChannelNet net = new ChannelNet();
        for (int i = 0; i < 3; i++) {
            net.open(0, 1, 100, 100);
            net.promise(i, 0, 1, 0, 9);
        }
        net.watch(1, true);
        net.watch(1, true);
        net.watch(1, false);
        net.publish(0, 0, 0);
        Check.same("watched no more", net.grow(1), 0);
        net.watch(1, true);
        Check.same("watched from now on", net.grow(1), 1);
        net.publish(1, 1, 0);
        Check.same("the publisher watches in vain", net.grow(9), 0);
    }

    private static void heightAndCoins() {
        ChannelNet net = new ChannelNet();
        net.grow(1000);
        net.grow(0);
        net.grow(1);
        Check.same("height", net.height(), 1001);
        net.open(0, 5, 1000000, 1);
        Check.same("coins(0)", net.coins(0), 0);
        Check.same("coins(5)", net.coins(5), 999999);
    }
}
