import java.math.BigInteger;

/** The boundary cases of promises 1, 3 to 6, 21, 23, 24, a test for each sentence that names one. */
public final class NodesBoundsTest {
    public static void main(String[] args) {
        newObject();
        fees();
        secrets();
        Check.sentence("21: a node watches from now on", NodesBoundsTest::watchesFromNowOn);
        Check.sentence("21: or does not", NodesBoundsTest::watchesNoMore);
        Check.sentence("21: IndexOutOfBoundsException", NodesBoundsTest::watchNoNode);
        Check.sentence("23: HEIGHT", NodesBoundsTest::heights);
        Check.sentence("24: COINS of a node, none and all", NodesBoundsTest::noneAndAllCoins);
        Check.sentence("24: IndexOutOfBoundsException", NodesBoundsTest::coinsOfNoNode);
        Check.end();
    }

    private static void newObject() {
        Check.sentence("1: BASE 0 and PARTS 0 of all nodes", NodesBoundsTest::noFeesAtFirst);
        Check.sentence("1: DELTA 1 of all nodes", NodesBoundsTest::deltaOneAtFirst);
        Check.sentence("1: no channel", NodesBoundsTest::noChannelAtFirst);
        Check.sentence("1: no secret is known", NodesBoundsTest::noSecretAtFirst);
        Check.sentence("1: nobody watches", NodesBoundsTest::nobodyWatchesAtFirst);
        Check.sentence("1: each object is one of its own", NodesBoundsTest::objectsShareNothing);
    }

    private static void fees() {
        Check.sentence("3: BASE 0 .. 10000", NodesBoundsTest::baseFrom0To10000);
        Check.sentence("3: PARTS 0 .. 1000000", NodesBoundsTest::partsFrom0To1000000);
        Check.sentence("3: DELTA 1 .. 100", NodesBoundsTest::deltaFrom1To100);
        Check.sentence("3: of a node", NodesBoundsTest::feesOfOneNode);
        Check.sentence("3: IndexOutOfBoundsException", NodesBoundsTest::feesOfNoNode);
        Check.sentence("3: IndexOutOfBoundsException before IllegalArgumentException", NodesBoundsTest::feesNodeFirst);
        Check.sentence("3: a refused call changes nothing", NodesBoundsTest::refusedFeesChangeNothing);
    }

    private static void secrets() {
        Check.sentence("4: a node is told a secret: its lock", NodesBoundsTest::toldEdges);
        Check.sentence("4: IndexOutOfBoundsException", NodesBoundsTest::tellNoNode);
        Check.sentence("4: 24 others are known", NodesBoundsTest::the25thSecret);
        Check.sentence("4: 24 others, not 24 with this one", NodesBoundsTest::toldAgainWith24);
        Check.sentence("4: IndexOutOfBoundsException before IllegalStateException", NodesBoundsTest::tellNodeFirst);
        Check.sentence("5: the LOCK of a secret, with wrap-around", NodesBoundsTest::locksWrapAround);
        Check.sentence("6: whether a node KNOWS the secret of a lock", NodesBoundsTest::knowsEdges);
        Check.sentence("6: IndexOutOfBoundsException", NodesBoundsTest::knowsNoNode);
    }

    /** Channels of 1000000 coins to a node and from it: a fee of 1 coin would be too much. */
    private static ChannelNet over(int node) {
        ChannelNet net = new ChannelNet();
        net.open((node + 1) % 6, node, 1000000, 0);
        net.open(node, (node + 2) % 6, 1000000, 0);
        return net;
    }

    private static void noFeesAtFirst() {
        for (int node = 0; node < 6; node++) {
            Check.same("over " + node, over(node).route((node + 1) % 6, (node + 2) % 6, 1000000), 1000000);
        }
    }

    private static void deltaOneAtFirst() {
        for (int node = 0; node < 6; node++) {
            Check.same("over " + node, delayOver(over(node), node), 1);
        }
    }

    /** By how much the deadline before a node is above the one behind it. */
    private static int delayOver(ChannelNet net, int node) {
        int payment = net.pay((node + 1) % 6, (node + 2) % 6, 1, 0, 500);
        net.step(payment);
        return net.made(0, net.channel(0, 5) - 1, 2) - 500;
    }

    private static void noChannelAtFirst() {
        ChannelNet net = new ChannelNet();
        Check.same("channels", net.channels(), 0);
        Check.refuses("channel 0", net, Check.INDEX, () -> net.channel(0, 0));
        Check.same("a route", net.route(0, 5, 1), ChannelNet.NONE);
    }

    private static void noSecretAtFirst() {
        ChannelNet net = new ChannelNet();
        for (int node = 0; node < 6; node++) {
            Check.no("lock 0, which is that of secret 0", net.knows(node, 0));
            Check.no("lock -1", net.knows(node, -1));
            Check.no("the lock of 1", net.knows(node, net.lock(1)));
        }
        Nets.fillSecrets(net, 24);
        Check.refuses("there was room for just 24", net, Check.STATE, () -> net.tell(0, 0));
    }

    private static void nobodyWatchesAtFirst() {
        ChannelNet net = new ChannelNet();
        for (int node = 0; node < 6; node++) {
            net.open(node, (node + 1) % 6, 5, 5);
            net.promise(node, node, 1, 0, 9);
            net.publish(node, node, 0);
        }
        Check.same("punished", net.grow(9), 0);
    }

    private static void objectsShareNothing() {
        ChannelNet used = Nets.channel();
        used.tell(0, 7);
        used.fees(1, 5, 5, 5);
        used.watch(2, true);
        used.grow(3);
        newObjectLooksNew(new ChannelNet());
        Check.same("the used one's height", used.height(), 3);
        Check.yes("the used one's secret", used.knows(0, used.lock(7)));
    }

    private static void newObjectLooksNew(ChannelNet net) {
        Check.same("height", net.height(), 0);
        Check.same("channels", net.channels(), 0);
        Check.same("coins", net.coins(4), 1000000);
        Check.no("a secret", net.knows(0, net.lock(7)));
        Check.same("number of its first channel", net.open(0, 1, 1000, 0), 0);
        net.open(1, 2, 1000, 0);
        Check.same("fees", net.route(0, 2, 1000), 1000);
    }

    private static void baseFrom0To10000() {
        ChannelNet net = Nets.chain(3, 100000);
        net.fees(1, 10000, 0, 1);
        Check.same("10000", net.route(0, 2, 1), 10001);
        Check.refusesEach("base", net, Check.ARGUMENT, Check.outside(0, 10000), base -> net.fees(1, base, 0, 1));
        Check.same("still 10000", net.route(0, 2, 1), 10001);
        net.fees(1, 0, 0, 1);
        Check.same("0", net.route(0, 2, 1), 1);
    }

    private static void partsFrom0To1000000() {
        ChannelNet net = Nets.chain(3, 100000);
        net.fees(1, 0, 1000000, 1);
        Check.same("1000000", net.route(0, 2, 7), 14);
        Check.refusesEach("parts", net, Check.ARGUMENT, Check.outside(0, 1000000), parts -> net.fees(1, 0, parts, 1));
        Check.same("still 1000000", net.route(0, 2, 7), 14);
        net.fees(1, 0, 0, 1);
        Check.same("0", net.route(0, 2, 7), 7);
    }

    private static void deltaFrom1To100() {
        ChannelNet net = over(1);
        net.fees(1, 0, 0, 100);
        Check.same("100", delayOver(net, 1), 100);
        Check.refusesEach("delta", net, Check.ARGUMENT, Check.outside(1, 100), delta -> net.fees(1, 0, 0, delta));
        Check.same("still 100", delayOver(net, 1), 100);
        net.fees(1, 0, 0, 1);
        Check.same("1", delayOver(net, 1), 1);
    }

    private static void feesOfOneNode() {
        for (int node = 0; node < 6; node += 5) {
            ChannelNet net = over(node);
            net.fees((node + 1) % 6, 9, 9, 9);
            net.fees((node + 2) % 6, 9, 9, 9);
            Check.same("the ends take none", net.route((node + 1) % 6, (node + 2) % 6, 1000), 1000);
            net.fees(node, 3, 0, 4);
            Check.same("it takes one", net.route((node + 1) % 6, (node + 2) % 6, 1000), 1003);
            Check.same("its delta", delayOver(net, node), 4);
        }
    }

    private static void feesOfNoNode() {
        ChannelNet net = new ChannelNet();
        Check.refusesEach("node", net, Check.INDEX, Check.outside(0, 5), node -> net.fees(node, 0, 0, 1));
    }

    private static void feesNodeFirst() {
        ChannelNet net = new ChannelNet();
        Check.refuses("base", net, Check.INDEX, () -> net.fees(6, -1, 0, 1));
        Check.refuses("parts", net, Check.INDEX, () -> net.fees(-1, 0, -1, 1));
        Check.refuses("delta", net, Check.INDEX, () -> net.fees(6, 0, 0, 0));
    }

    private static void refusedFeesChangeNothing() {
        ChannelNet net = over(1);
        net.fees(1, 7, 0, 3);
        Check.refuses("delta", net, Check.ARGUMENT, () -> net.fees(1, 50, 500000, 101));
        Check.refuses("parts", net, Check.ARGUMENT, () -> net.fees(1, 50, 1000001, 50));
        Check.same("the fee stays", net.route(2, 3, 10), 17);
        Check.same("the delta stays", delayOver(net, 1), 3);
    }

    private static void toldEdges() {
        ChannelNet net = new ChannelNet();
        long[] secrets = {0, -1, Long.MIN_VALUE, Long.MAX_VALUE};
        for (long secret : secrets) {
            Check.same("the lock of " + secret, net.tell(0, secret), net.lock(secret));
            Check.same("told again", net.tell(0, secret), net.lock(secret));
            Check.same("the last node", net.tell(5, secret), net.lock(secret));
            for (int node = 0; node < 6; node++) {
                Check.yes(node + " knows it or not", net.knows(node, net.lock(secret)) == (node == 0 || node == 5));
            }
        }
    }

    private static void tellNoNode() {
        ChannelNet net = new ChannelNet();
        Check.refusesEach("node", net, Check.INDEX, Check.outside(0, 5), node -> net.tell(node, 1));
    }

    private static void the25thSecret() {
        ChannelNet net = new ChannelNet();
        Nets.fillSecrets(net, 23);
        Check.same("the 24th", net.tell(3, 1), net.lock(1));
        Check.refuses("the 25th", net, Check.STATE, () -> net.tell(3, 2));
        Check.refuses("a lock is another secret", net, Check.STATE, () -> net.tell(3, net.lock(1)));
        Check.yes("the first one is still known", net.knows(0, net.lock(11)));
    }

    private static void toldAgainWith24() {
        ChannelNet net = new ChannelNet();
        Nets.fillSecrets(net, 24);
        Check.same("the first one, the same node", net.tell(0, 11), net.lock(11));
        Check.same("the last one, another node", net.tell(5, 34), net.lock(34));
        Check.yes("it knows it", net.knows(5, net.lock(34)));
        Check.no("it knows no other", net.knows(5, net.lock(11)));
    }

    private static void tellNodeFirst() {
        ChannelNet net = new ChannelNet();
        Nets.fillSecrets(net, 24);
        Check.refuses("node 6", net, Check.INDEX, () -> net.tell(6, 1));
        Check.refuses("node -1, a known one", net, Check.INDEX, () -> net.tell(-1, 11));
    }

    private static void locksWrapAround() {
        ChannelNet net = new ChannelNet();
        long[] secrets = {0, 1, -1, 2, 77, Long.MIN_VALUE, Long.MAX_VALUE, Long.MIN_VALUE + 1, 1L << 32, -1L >>> 32, 1L << 62};
        for (long secret : secrets) {
            Check.same("lock(" + secret + ")", net.lock(secret), lockByNumbers(secret));
        }
    }

    /** The document's words with numbers that have no size, each cut down to 64 bits. */
    private static long lockByNumbers(long secret) {
        BigInteger x = cut(BigInteger.valueOf(secret).multiply(BigInteger.valueOf(7046029254386353131L)));
        x = cut(x.xor(x.shiftRight(29)).multiply(BigInteger.valueOf(4768777513237032717L)));
        return x.xor(x.shiftRight(32)).longValue();
    }

    private static BigInteger cut(BigInteger x) {
        return x.mod(BigInteger.ONE.shiftLeft(64));
    }

    private static void knowsEdges() {
        ChannelNet net = new ChannelNet();
        net.tell(5, 3);
        Check.yes("by its lock", net.knows(5, net.lock(3)));
        Check.no("by the secret itself", net.knows(5, 3));
        Check.no("the node next to it", net.knows(4, net.lock(3)));
        Check.no("the first node", net.knows(0, net.lock(3)));
        Check.no("the lock of none that was told", net.knows(5, Long.MIN_VALUE));
    }

    private static void knowsNoNode() {
        ChannelNet net = new ChannelNet();
        net.tell(5, 3);
        Check.refusesEach("node", net, Check.INDEX, Check.outside(0, 5), node -> net.knows(node, net.lock(3)));
        Check.refusesEach("no secret", net, Check.INDEX, Check.outside(0, 5), node -> net.knows(node, 0));
    }

    /** Channels 0 and 1 whose old states node 0 has published. */
    private static ChannelNet publishedByNode0() {
        ChannelNet net = Nets.chain(2, 5);
        net.open(0, 5, 5, 5);
        for (int channel = 0; channel < 2; channel++) {
            net.promise(channel, 0, 1, 0, 9);
            net.publish(channel, 0, 0);
        }
        return net;
    }

    private static void watchesFromNowOn() {
        ChannelNet net = publishedByNode0();
        net.grow(1);
        net.watch(5, true);
        net.watch(5, true);
        Check.same("not yet, before HEIGHT grows", net.channel(1, 0), ChannelNet.PUBLISHED);
        Check.same("then one", net.grow(1), 1);
        Check.same("its own", net.channel(1, 0), ChannelNet.CLOSED);
        net.watch(0, true);
        Check.same("not what it published itself", net.grow(7), 0);
    }

    private static void watchesNoMore() {
        ChannelNet net = publishedByNode0();
        net.watch(5, true);
        net.watch(1, true);
        net.watch(1, false);
        net.watch(2, false);
        Check.same("only the other one", net.grow(9), 1);
        Check.same("it is not punished", net.channel(0, 0), ChannelNet.PUBLISHED);
    }

    private static void watchNoNode() {
        ChannelNet net = publishedByNode0();
        Check.refusesEach("on, node", net, Check.INDEX, Check.outside(0, 5), node -> net.watch(node, true));
        Check.refusesEach("off, node", net, Check.INDEX, Check.outside(0, 5), node -> net.watch(node, false));
        Check.same("nobody watches", net.grow(9), 0);
    }

    private static void heights() {
        ChannelNet net = new ChannelNet();
        Check.same("at first", net.height(), 0);
        net.grow(0);
        Check.same("behind none", net.height(), 0);
        for (int i = 0; i < 500; i++) {
            net.grow(1000);
        }
        Check.same("as far as calls go", net.height(), 500000);
    }

    private static void noneAndAllCoins() {
        ChannelNet net = new ChannelNet();
        net.open(0, 5, 1000000, 1000000);
        Check.same("the first node has none", net.coins(0), 0);
        Check.same("the last node has none", net.coins(5), 0);
        net.promise(0, 0, 1000000, 0, 9);
        net.publish(0, 0, 0);
        Check.same("the last node has both's", net.punish(0), 2000000);
        Check.same("the last node has both's", net.coins(5), 2000000);
        Check.same("the first node has none", net.coins(0), 0);
    }

    private static void coinsOfNoNode() {
        ChannelNet net = new ChannelNet();
        Check.refusesEach("node", net, Check.INDEX, Check.outside(0, 5), node -> net.coins(node));
    }
}
