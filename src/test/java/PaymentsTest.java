/** Promises 11 to 15: routes and payments. */
public final class PaymentsTest {
    public static void main(String[] args) {
        amounts();
        whatARouteMayUse();
        bestRoute();
        leastNumbersFromTheFirstChannelOn();
        aDearerEndMayBeTheBest();
        allNodes();
        routeRefuses();
        hops();
        pays();
        payRefuses();
        keptToTheEnd();
        turnsBackAtAChannel();
        turnsBackAtTheReceiver();
        leftToTheLedger();
        endedByOthers();
        fullOfStates();
        asItWasWhenMade();
        tells();
        Check.end();
    }

    private static String route(ChannelNet net, int from, int to, int amount) {
        StringBuilder text = new StringBuilder();
        text.append(net.route(from, to, amount)).append(" by");
        for (int i = 0; i < net.hop(ChannelNet.NONE); i++) {
            text.append(' ').append(net.hop(i));
        }
        return text.toString();
    }

    private static void route(String what, ChannelNet net, int[] ends, int amount, String want) {
        Check.text(what, route(net, ends[0], ends[1], amount), want);
    }

    private static ChannelNet chain(int nodes, int share) {
        ChannelNet net = new ChannelNet();
        for (int node = 0; node + 1 < nodes; node++) {
            net.open(node, node + 1, share, share);
        }
        return net;
    }

    private static void steps(String what, ChannelNet net, int payment, int... want) {
        for (int i = 0; i < want.length; i++) {
            Check.same(what + ", step " + i, net.step(payment), want[i]);
            Check.same(what + ", what it is behind step " + i, net.payment(payment, 0), want[i]);
        }
    }

    private static void payment(String what, ChannelNet net, int payment, int... want) {
        for (int i = 0; i < want.length; i++) {
            Check.same(what + ", payment " + i, net.payment(payment, i), want[i]);
        }
    }

    private static void amounts() {
        ChannelNet net = chain(4, 100000);
        net.fees(1, 10, 10000, 5);
        net.fees(2, 3, 1500, 7);
        // behind node 2: 1000; at it 3 + 1.5; at node 1 10 + 10.04
        route("forward", net, new int[] {0, 3}, 1000, "1024 by 0 1 2");
        // behind node 1: 1000; at it 10 + 10; at node 2 3 + 1.53
        route("back", net, new int[] {3, 0}, 1000, "1024 by 2 1 0");
        net.fees(2, 3, 100000, 7);
        route("forward", net, new int[] {0, 3}, 1000, "1124 by 0 1 2");
        route("back", net, new int[] {3, 0}, 1000, "1125 by 2 1 0");
        net.fees(1, 0, 1000000, 1);
        net.fees(2, 0, 1000000, 1);
        route("all of it", net, new int[] {0, 3}, 25000, "100000 by 0 1 2");
        route("one too many", net, new int[] {0, 3}, 25001, "-1 by");
    }

    private static void whatARouteMayUse() {
        ChannelNet net = new ChannelNet();
        net.open(0, 1, 100, 40);
        route("balance", net, new int[] {0, 1}, 100, "100 by 0");
        route("balance", net, new int[] {0, 1}, 101, "-1 by");
        route("the other balance", net, new int[] {1, 0}, 40, "40 by 0");
        route("the other balance", net, new int[] {1, 0}, 41, "-1 by");
        for (int i = 0; i < 5; i++) {
            net.promise(0, 1, 1, 0, 9);
        }
        route("5 promises", net, new int[] {0, 1}, 100, "100 by 0");
        net.promise(0, 1, 1, 0, 9);
        route("6 promises", net, new int[] {0, 1}, 100, "-1 by");
        net.drop(0, 2);
        net.drop(0, 1);
        route("4 promises", net, new int[] {0, 1}, 100, "100 by 0");
        net.publish(0, 0, 0);
        route("PUBLISHED", net, new int[] {0, 1}, 100, "-1 by");
        net.punish(0);
        route("CLOSED", net, new int[] {0, 1}, 1, "-1 by");
        route("no channel", net, new int[] {2, 3}, 1, "-1 by");
    }

    private static void bestRoute() {
        ChannelNet net = new ChannelNet();
        net.open(0, 3, 50, 0);
        net.open(0, 1, 1000, 0);
        net.open(1, 3, 1000, 0);
        net.open(0, 1, 1000, 0);
        net.open(1, 3, 1000, 0);
        net.open(0, 2, 1000, 0);
        net.open(2, 3, 1000, 0);
        route("fewest channels", net, new int[] {0, 3}, 50, "50 by 0");
        route("least numbers", net, new int[] {0, 3}, 51, "51 by 1 2");
        net.fees(1, 1, 0, 1);
        route("least amount", net, new int[] {0, 3}, 51, "51 by 5 6");
        net.fees(2, 1, 0, 1);
        route("least numbers", net, new int[] {0, 3}, 51, "52 by 1 2");
        net.publish(2, 1, 0);
        route("second channel", net, new int[] {0, 3}, 51, "52 by 1 4");
        net.publish(1, 1, 0);
        route("first channel", net, new int[] {0, 3}, 51, "52 by 3 4");
        net.open(3, 0, 0, 60);
        route("dearer, but fewer", net, new int[] {0, 3}, 51, "51 by 7");
    }

    private static void leastNumbersFromTheFirstChannelOn() {
        ChannelNet net = new ChannelNet();
        net.open(0, 1, 1000, 0);
        net.open(2, 3, 1000, 0);
        net.open(0, 2, 1000, 0);
        net.open(1, 3, 1000, 0);
        route("the first channel counts before the last one", net, new int[] {0, 3}, 9, "9 by 0 3");
        ChannelNet longer = new ChannelNet();
        longer.open(0, 1, 1000, 0);
        longer.open(3, 4, 1000, 0);
        longer.open(1, 2, 1000, 0);
        longer.open(2, 4, 1000, 0);
        longer.open(1, 3, 1000, 0);
        route("the second channel counts before the last one", longer, new int[] {0, 4}, 9, "9 by 0 2 3");
        longer.open(2, 4, 1000, 0);
        route("the last one counts at last", longer, new int[] {0, 4}, 9, "9 by 0 2 3");
    }

    /** A cut-off fee may hide that one end of a route is dearer than another. */
    private static void aDearerEndMayBeTheBest() {
        ChannelNet net = new ChannelNet();
        net.open(0, 1, 1000, 0);
        net.open(1, 3, 1000, 0);
        net.open(3, 4, 1000, 0);
        net.open(1, 2, 1000, 0);
        net.open(2, 4, 1000, 0);
        net.open(1, 4, 100, 0);
        net.fees(3, 1, 0, 1);
        net.fees(1, 0, 100000, 1);
        route("the cheaper end", net, new int[] {0, 4}, 104, "114 by 0 3 4");
        route("the cheaper end by numbers", net, new int[] {0, 4}, 100, "110 by 0 5");
        net.fees(2, 1, 0, 1);
        route("the least numbers", net, new int[] {0, 4}, 104, "115 by 0 1 2");
    }

    private static void allNodes() {
        ChannelNet net = chain(6, 1000);
        route("over all nodes", net, new int[] {0, 5}, 7, "7 by 0 1 2 3 4");
        route("and back", net, new int[] {5, 0}, 7, "7 by 4 3 2 1 0");
        net.open(5, 0, 3, 3);
        net.open(0, 1, 1000, 0);
        route("two over all nodes", net, new int[] {0, 5}, 7, "7 by 0 1 2 3 4");
        route("the short way", net, new int[] {0, 5}, 3, "3 by 5");
        route("too much for it", net, new int[] {0, 5}, 4, "4 by 0 1 2 3 4");
        route("round the other way", net, new int[] {0, 4}, 3, "3 by 5 4");
    }

    private static void routeRefuses() {
        ChannelNet net = chain(3, 1000);
        net.route(0, 2, 5);
        Check.refuses("from -1", net, Check.INDEX, () -> net.route(-1, 0, 1));
        Check.refuses("to 6", net, Check.INDEX, () -> net.route(0, 6, 1));
        Check.refuses("node before amount", net, Check.INDEX, () -> net.route(6, 6, 0));
        Check.refuses("both are one", net, Check.ARGUMENT, () -> net.route(1, 1, 1));
        Check.refuses("amount 0", net, Check.ARGUMENT, () -> net.route(0, 1, 0));
        Check.refuses("amount -1", net, Check.ARGUMENT, () -> net.route(0, 1, -1));
        Check.refuses("amount 10000001", net, Check.ARGUMENT, () -> net.route(0, 1, 10000001));
        Check.same("the route stays", net.hop(ChannelNet.NONE), 2);
        Check.same("amount 10000000", net.route(0, 1, 10000000), ChannelNet.NONE);
        Check.same("no route", net.hop(ChannelNet.NONE), 0);
    }

    private static void hops() {
        ChannelNet net = chain(3, 1000);
        Check.refuses("no route yet", net, Check.INDEX, () -> net.hop(0));
        net.route(2, 0, 5);
        Check.same("how many", net.hop(ChannelNet.NONE), 2);
        Check.same("the first one", net.hop(0), 1);
        Check.same("the second one", net.hop(1), 0);
        Check.refuses("hop 2", net, Check.INDEX, () -> net.hop(2));
        Check.refuses("hop -2", net, Check.INDEX, () -> net.hop(-2));
        net.pay(0, 1, 5, 0, 9);
        Check.same("of pay()", net.hop(ChannelNet.NONE), 1);
        Check.same("pay() finds none", net.pay(0, 5, 5, 0, 9), ChannelNet.NONE);
        Check.same("of pay() without one", net.hop(ChannelNet.NONE), 0);
        Check.refuses("hop 0 of none", net, Check.INDEX, () -> net.hop(0));
        net.route(2, 0, 5);
        net.close(0);
        Check.same("it stays as it was", net.hop(1), 0);
    }

    private static void pays() {
        ChannelNet net = chain(4, 1000);
        net.fees(1, 10, 10000, 5);
        net.fees(2, 3, 0, 7);
        net.fees(3, 9, 9, 50);
        Check.same("number", net.pay(0, 3, 100, 0, 20), 0);
        Check.same("nothing is promised yet", net.channel(0, 1), 0);
        steps("forward", net, 0, 0, 0, 0);
        int[][] made = {{0, 114, 32, 1}, {1, 103, 27, 1}, {2, 100, 20, 1}};
        for (int channel = 0; channel < 3; channel++) {
            for (int what = 0; what < 4; what++) {
                Check.same("promise", net.made(channel, 0, what), made[channel][what]);
            }
        }
        Check.same("deadline 0", net.pay(0, 3, 100, 0, 0), 1);
        Check.same("deadline 1000000000", net.pay(0, 3, 100, 0, 1000000000), 2);
        steps("forward", net, 2, 0);
        Check.same("a far deadline", net.made(0, 1, 2), 1000000012);
        Check.same("no route, no payment", net.pay(0, 5, 1, 0, 9), ChannelNet.NONE);
        Check.same("numbers go on", net.pay(0, 1, 1, 0, 9), 3);
    }

    private static void payRefuses() {
        ChannelNet net = chain(3, 1000);
        Check.refuses("from -1", net, Check.INDEX, () -> net.pay(-1, 0, 1, 0, 9));
        Check.refuses("to 6", net, Check.INDEX, () -> net.pay(0, 6, 1, 0, 9));
        Check.refuses("node before amount", net, Check.INDEX, () -> net.pay(0, 6, 0, 0, -9));
        Check.refuses("both are one", net, Check.ARGUMENT, () -> net.pay(1, 1, 1, 0, 9));
        Check.refuses("amount 0", net, Check.ARGUMENT, () -> net.pay(0, 1, 0, 0, 9));
        Check.refuses("amount 10000001", net, Check.ARGUMENT, () -> net.pay(0, 1, 10000001, 0, 9));
        Check.refuses("deadline -1", net, Check.ARGUMENT, () -> net.pay(0, 1, 1, 0, -1));
        Check.refuses("deadline 1000000001", net, Check.ARGUMENT, () -> net.pay(0, 1, 1, 0, 1000000001));
        for (int i = 0; i < 16; i++) {
            Check.same("number", net.pay(0, 2, 1, 0, 9), i);
        }
        Check.refuses("the 17th", net, Check.STATE, () -> net.pay(0, 1, 1, 0, 9));
        Check.refuses("the 17th without route", net, Check.STATE, () -> net.pay(0, 5, 1, 0, 9));
        Check.refuses("deadline before state", net, Check.ARGUMENT, () -> net.pay(0, 5, 1, 0, -1));
        Check.same("the route stays", net.hop(ChannelNet.NONE), 2);
    }

    private static void keptToTheEnd() {
        ChannelNet net = chain(4, 1000);
        net.fees(1, 1, 0, 1);
        long lock = net.tell(3, 7);
        net.pay(0, 3, 100, lock, 20);
        steps("forward", net, 0, 0, 0, 0, 1);
        payment("all promised", net, 0, 1, 1, 3, 0);
        steps("back", net, 0, 1);
        payment("one kept", net, 0, 1, 1, 3, 1);
        Check.yes("the node before knows", net.knows(2, lock));
        Check.no("the next one does not yet", net.knows(1, lock));
        steps("back", net, 0, 1, 3);
        payment("all kept", net, 0, 3, 1, 3, 3);
        Check.yes("the sender knows", net.knows(0, lock));
        Check.no("another one knows", net.knows(4, lock));
        Check.same("balance", net.state(0, 2, 0), 899);
        Check.same("balance", net.state(0, 2, 1), 1101);
        Check.same("balance", net.state(2, 2, 1), 1100);
        Check.refuses("DONE", net, Check.STATE, () -> net.step(0));
        Check.refuses("payment -1", net, Check.INDEX, () -> net.step(-1));
        Check.refuses("payment 1", net, Check.INDEX, () -> net.step(1));
    }

    private static void turnsBackAtAChannel() {
        ChannelNet net = chain(4, 1000);
        net.tell(3, 7);
        for (int i = 0; i < 6; i++) {
            net.pay(0, 3, 600, net.lock(7), 20);
        }
        net.promise(1, 1, 401, 0, 9);
        steps("balance", net, 0, 0, 2);
        payment("turned", net, 0, 2, 2, 1, 0);
        Check.same("the promise is still there", net.made(0, 0, 3), 1);
        steps("balance", net, 0, 3);
        payment("done", net, 0, 3, 2, 1, 1);
        Check.same("dropped", net.state(0, 2, 0), 1000);
        net.drop(1, 0);
        net.promise(1, 1, 400, 0, 9);
        steps("just enough", net, 1, 0, 0);
        net.promise(2, 2, 401, 0, 9);
        steps("third channel", net, 1, 2, 2, 3);
        payment("third channel", net, 1, 3, 2, 2, 2);
        net.publish(2, 2, 0);
        steps("PUBLISHED", net, 2, 0, 0, 2, 2, 3);
        for (int i = 0; i < 4; i++) {
            net.promise(1, 2, 1, 0, 9);
        }
        steps("5 promises", net, 3, 0, 0);
        steps("6 promises, and the sender's balance", net, 4, 3);
        payment("none was promised", net, 4, 3, 2, 0, 0);
        Check.refuses("DONE", net, Check.STATE, () -> net.step(4));
        steps("back", net, 3, 2, 2, 3);
        net.promise(1, 2, 1, 0, 9);
        steps("6 promises", net, 5, 0, 2, 3);
        lateForward();
    }

    private static void lateForward() {
        ChannelNet net = chain(3, 1000);
        net.pay(0, 2, 10, net.lock(7), 5);
        net.pay(0, 2, 10, net.lock(7), 5);
        net.pay(0, 2, 10, net.lock(7), 5);
        net.grow(4);
        steps("one below the deadline", net, 0, 0, 0);
        net.grow(1);
        steps("one below the first one's, at the second one's", net, 1, 0, 2, 3);
        net.grow(1);
        steps("at the first one's", net, 2, 3);
        payment("none was promised", net, 2, 3, 2, 0, 0);
    }

    private static void turnsBackAtTheReceiver() {
        ChannelNet net = chain(3, 1000);
        long lock = net.tell(0, 7);
        net.tell(1, 7);
        net.pay(0, 2, 10, lock, 5);
        net.grow(3);
        steps("the receiver does not know", net, 0, 0, 0, 2);
        net.tell(2, 7);
        net.grow(9);
        steps("too late to know, never to drop", net, 0, 2, 3);
        payment("dropped", net, 0, 3, 2, 2, 2);
        Check.same("balance", net.state(0, 2, 0), 1000);
        Check.same("balance", net.state(1, 2, 0), 1000);
    }

    private static void leftToTheLedger() {
        ChannelNet net = chain(3, 1000);
        long lock = net.tell(2, 7);
        net.fees(1, 0, 0, 2);
        net.pay(0, 2, 10, lock, 5);
        net.pay(0, 2, 10, lock, 5);
        net.pay(0, 2, 10, lock, 50);
        steps("forward", net, 0, 0, 0, 1);
        net.grow(5);
        steps("the last one is late", net, 0, 1);
        payment("left", net, 0, 1, 1, 2, 0);
        Check.same("it stays", net.made(1, 0, 3), 1);
        Check.no("the node before did not learn", net.knows(1, lock));
        net.grow(1);
        steps("the first one is not", net, 0, 3);
        payment("kept", net, 0, 3, 1, 2, 1);
        Check.no("the payee there did not learn, either", net.knows(1, lock));
        Check.yes("but the payer", net.knows(0, lock));
        steps("forward", net, 1, 0, 2, 3);
        steps("forward", net, 2, 0, 0, 1);
        net.publish(1, 1, 0);
        steps("PUBLISHED", net, 2, 1);
        net.publish(0, 1, 0);
        steps("PUBLISHED", net, 2, 3);
        payment("none was kept", net, 2, 3, 1, 2, 0);
    }

    private static void endedByOthers() {
        ChannelNet net = chain(3, 1000);
        long lock = net.tell(2, 7);
        net.pay(0, 2, 10, lock, 50);
        steps("forward", net, 0, 0, 0);
        net.drop(1, 0);
        net.promise(1, 1, 10, lock, 50);
        steps("another promise is not its", net, 0, 1, 1);
        Check.same("that one stays", net.made(1, 1, 3), 1);
        net.keep(0, 0, 7);
        steps("kept by keep()", net, 0, 3);
        payment("none by it", net, 0, 3, 1, 2, 0);
        Check.same("no state by it", net.channel(0, 1), 2);
    }

    private static void fillStates(ChannelNet net, int channel, int payer, int latest) {
        while (net.channel(channel, 1) + 2 <= latest) {
            net.drop(channel, net.promise(channel, payer, 1, 0, 900));
        }
        if (net.channel(channel, 1) < latest) {
            net.promise(channel, payer, 1, 0, 900);
        }
    }

    private static void fullOfStates() {
        ChannelNet net = chain(3, 1000);
        long lock = net.tell(2, 7);
        net.pay(0, 2, 990, lock, 50);
        net.pay(0, 2, 10, lock, 50);
        fillStates(net, 0, 1, 61);
        fillStates(net, 1, 2, 63);
        Check.same("a route over a full channel", net.route(0, 2, 990), 990);
        steps("forward", net, 0, 0);
        Check.refuses("forward into a full one", net, Check.STATE, () -> net.step(0));
        net.publish(1, 2, 63);
        steps("not OPEN, so no state", net, 0, 2);
        steps("forward", net, 1, 0);
        Check.refuses("back in a full one", net, Check.STATE, () -> net.step(0));
        net.publish(0, 1, 63);
        steps("left to the ledger", net, 0, 3);
        payment("left to the ledger", net, 0, 3, 2, 1, 0);
        lateInAFullOne();
        poorInAFullOne();
    }

    private static void lateInAFullOne() {
        ChannelNet net = chain(2, 1000);
        long lock = net.tell(1, 7);
        net.pay(0, 1, 10, lock, 5);
        fillStates(net, 0, 1, 62);
        steps("forward", net, 0, 0, 1);
        Check.refuses("kept in a full one", net, Check.STATE, () -> net.step(0));
        net.grow(5);
        steps("late, so no state", net, 0, 3);
        payment("left", net, 0, 3, 1, 1, 0);
    }

    private static void poorInAFullOne() {
        ChannelNet net = chain(2, 1000);
        net.pay(0, 1, 1000, 0, 5);
        fillStates(net, 0, 0, 63);
        steps("no balance, so no state", net, 0, 3);
    }

    private static void asItWasWhenMade() {
        ChannelNet net = chain(3, 1000);
        net.fees(1, 5, 0, 7);
        net.pay(0, 2, 10, net.lock(7), 50);
        net.fees(1, 50, 0, 70);
        net.open(0, 2, 100, 100);
        steps("forward", net, 0, 0, 0);
        Check.same("amount", net.made(0, 0, 1), 15);
        Check.same("deadline", net.made(0, 0, 2), 57);
        Check.same("the new channel is not used", net.channel(2, 1), 0);
    }

    private static void tells() {
        ChannelNet net = chain(2, 1000);
        net.pay(0, 1, 10, net.lock(7), 50);
        payment("at first", net, 0, 0, 0, 0, 0);
        net.step(0);
        payment("promised", net, 0, 0, 0, 1, 0);
        Check.refuses("what -1", net, Check.ARGUMENT, () -> net.payment(0, -1));
        Check.refuses("what 4", net, Check.ARGUMENT, () -> net.payment(0, 4));
        Check.refuses("payment -1", net, Check.INDEX, () -> net.payment(-1, 0));
        Check.refuses("payment 1", net, Check.INDEX, () -> net.payment(1, 4));
    }
}
