/** Objects that many tests begin with, and what is often done with them or asked of them. */
final class Nets {
    private Nets() {
    }

    /** Channel 0 between node 4, with 1000 coins, and node 2, with 500. */
    static ChannelNet channel() {
        ChannelNet net = new ChannelNet();
        net.open(4, 2, 1000, 500);
        return net;
    }

    /** That channel with promise 0 of node 4, from state 1 on, and promise 1 of node 2, from state 2 on. */
    static ChannelNet promises() {
        ChannelNet net = channel();
        net.promise(0, 4, 300, net.lock(8), 15);
        net.promise(0, 2, 100, net.lock(9), 5);
        return net;
    }

    /** Channel 0 between nodes 0 and 1, channel 1 between nodes 1 and 2, and so on. */
    static ChannelNet chain(int nodes, int share) {
        ChannelNet net = new ChannelNet();
        for (int node = 0; node + 1 < nodes; node++) {
            net.open(node, node + 1, share, share);
        }
        return net;
    }

    /** Payments 0 and 1 of 5 coins over channels 0 and 1, until height 5 (and 6), whose secret node 2 knows. */
    static ChannelNet payments() {
        ChannelNet net = chain(3, 10);
        long lock = net.tell(2, 7);
        net.pay(0, 2, 5, lock, 5);
        net.pay(0, 2, 5, lock, 5);
        return net;
    }

    /** Makes states until the latest one has this number; if their count is odd, a promise of 1 coin is left. */
    static void fillStates(ChannelNet net, int channel, int payer, int latest) {
        while (net.channel(channel, 1) + 2 <= latest) {
            net.drop(channel, net.promise(channel, payer, 1, 0, 900));
        }
        if (net.channel(channel, 1) < latest) {
            net.promise(channel, payer, 1, 0, 900);
        }
    }

    /** Node 0 is told so many secrets, from 11 on. */
    static void fillSecrets(ChannelNet net, int count) {
        for (int i = 0; i < count; i++) {
            net.tell(0, 11 + i);
        }
    }

    static String route(ChannelNet net, int from, int to, int amount) {
        StringBuilder text = new StringBuilder();
        text.append(net.route(from, to, amount)).append(" by");
        for (int i = 0; i < net.hop(ChannelNet.NONE); i++) {
            text.append(' ').append(net.hop(i));
        }
        return text.toString();
    }

    static void steps(String what, ChannelNet net, int payment, int... want) {
        for (int i = 0; i < want.length; i++) {
            Check.same(what + ", step " + i, net.step(payment), want[i]);
            Check.same(what + ", what it is behind step " + i, net.payment(payment, 0), want[i]);
        }
    }

    static void payment(String what, ChannelNet net, int payment, int... want) {
        for (int i = 0; i < want.length; i++) {
            Check.same(what + ", payment " + i, net.payment(payment, i), want[i]);
        }
    }
}
