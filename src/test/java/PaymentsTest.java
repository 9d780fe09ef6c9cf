/** Promises 11 to 15: routes and payments. */
public final class PaymentsTest {
    public static void main(String[] args) {
        amounts();
        whatARouteMayUse();
        bestRoute();
        leastNumbersFromTheFirstChannelOn();
        aDearerEndMayBeTheBest();
        allNodes();
        hops();
        pays();
        keptToTheEnd();
        turnsBackAtAChannel();
        turnsBackAtTheReceiver();
        leftToTheLedger();
        endedByOthers();
        tells();
        Check.end();
    }

    private static void route(String what, ChannelNet net, int[] ends, int amount, String want) {
        Check.text(what, Nets.route(net, ends[0], ends[1], amount), want);
    }

    private static void amounts() {
        ChannelNet net = Nets.chain(4, 100000);
        net.fees(1, 10, 10000, 5);
        net.fees(2, 3, 1500, 7);
        // behind node 2: 1000; at it 3 + 1.5; at node 1 10 + 10.04
        route("forward", net, new int[] {0, 3}, 1000, "1024 by 0 1 2");
        // behind node 1: 1000; at it 10 + 10; at node 2 3 + 1.53
        route("back", net, new int[] {3, 0}, 1000, "1024 by 2 1 0");
        net.fees(2, 3, 100000, 7);
        route("forward", net, new int[] {0, 3}, 1000, "1124 by 0 1 2");
        route("back", net, new int[] {3, 0}, 1000, "1125 by 2 1 0");
        net.fees(1, 0, 1000000, 1);
        net.fees(2, 0, 1000000, 1);
        route("all of it", net, new int[] {0, 3}, 25000, "100000 by 0 1 2");
        route("one too many", net, new int[] {0, 3}, 25001, "-1 by");
    }

    private static void whatARouteMayUse() {
        ChannelNet net = new ChannelNet();
        net.open(0, 1, 100, 40);
        route("balance", net, new int[] {0, 1}, 100, "100 by 0");
        route("balance", net, new int[] {0, 1}, 101, "-1 by");
        route("the other balance", net, new int[] {1, 0}, 40, "40 by 0");
        route("the other balance", net, new int[] {1, 0}, 41, "-1 by");
        for (int i = 0; i < 5; i++) {
            net.promise(0, 1, 1, 0, 9);
        }
        route("5 promises", net, new int[] {0, 1}, 100, "100 by 0");
        net.promise(0, 1, 1, 0, 9);
        route("6 promises", net, new int[] {0, 1}, 100, "-1 by");
        net.drop(0, 2);
        net.drop(0, 1);
        route("4 promises", net, new int[] {0, 1}, 100, "100 by 0");
        net.publish(0, 0, 0);
        route("PUBLISHED", net, new int[] {0, 1}, 100, "-1 by");
        net.punish(0);
        route("CLOSED", net, new int[] {0, 1}, 1, "-1 by");
        route("no channel", net, new int[] {2, 3}, 1, "-1 by");
    }

    private static void bestRoute() {
        ChannelNet net = new ChannelNet();
        net.open(0, 3, 50, 0);
        net.open(0, 1, 1000, 0);
        net.open(1, 3, 1000, 0);
        net.open(0, 1, 1000, 0);
        net.open(1, 3, 1000, 0);
        net.open(0, 2, 1000, 0);
        net.open(2, 3, 1000, 0);
        route("fewest channels", net, new int[] {0, 3}, 50, "50 by 0");
        route("least numbers", net, new int[] {0, 3}, 51, "51 by 1 2");
        net.fees(1, 1, 0, 1);
        route("least amount", net, new int[] {0, 3}, 51, "51 by 5 6");
        net.fees(2, 1, 0, 1);
        route("least numbers", net, new int[] {0, 3}, 51, "52 by 1 2");
        net.publish(2, 1, 0);
        route("second channel", net, new int[] {0, 3}, 51, "52 by 1 4");
        net.publish(1, 1, 0);
        route("first channel", net, new int[] {0, 3}, 51, "52 by 3 4");
        net.open(3, 0, 0, 60);
        route("dearer, but fewer", net, new int[] {0, 3}, 51, "51 by 7");
    }

    private static void leastNumbersFromTheFirstChannelOn() {
        ChannelNet net = new ChannelNet();
        net.open(0, 1, 1000, 0);
        net.open(2, 3, 1000, 0);
        net.open(0, 2, 1000, 0);
        net.open(1, 3, 1000, 0);
        route("the first channel counts before the last one", net, new int[] {0, 3}, 9, "9 by 0 3");
        ChannelNet longer = new ChannelNet();
        longer.open(0, 1, 1000, 0);
        longer.open(3, 4, 1000, 0);
        longer.open(1, 2, 1000, 0);
        longer.open(2, 4, 1000, 0);
        longer.open(1, 3, 1000, 0);
        route("the second channel counts before the last one", longer, new int[] {0, 4}, 9, "9 by 0 2 3");
        longer.open(2, 4, 1000, 0);
        route("the last one counts at last", longer, new int[] {0, 4}, 9, "9 by 0 2 3");
    }

    /** A cut-off fee may hide that one end of a route is dearer than another. */
    private static void aDearerEndMayBeTheBest() {
        ChannelNet net = new ChannelNet();
        net.open(0, 1, 1000, 0);
        net.open(1, 3, 1000, 0);
        net.open(3, 4, 1000, 0);
        net.open(1, 2, 1000, 0);
        net.open(2, 4, 1000, 0);
        net.open(1, 4, 100, 0);
        net.fees(3, 1, 0, 1);
        net.fees(1, 0, 100000, 1);
        route("the cheaper end", net, new int[] {0, 4}, 104, "114 by 0 3 4");
        route("the cheaper end by numbers", net, new int[] {0, 4}, 100, "110 by 0 5");
        net.fees(2, 1, 0, 1);
        route("the least numbers", net, new int[] {0, 4}, 104, "115 by 0 1 2");
    }

    private static void allNodes() {
        ChannelNet net = Nets.chain(6, 1000);
        route("over all nodes", net, new int[] {0, 5}, 7, "7 by 0 1 2 3 4");
        route("and back", net, new int[] {5, 0}, 7, "7 by 4 3 2 1 0");
        net.open(5, 0, 3, 3);
        net.open(0, 1, 1000, 0);
        route("two over all nodes", net, new int[] {0, 5}, 7, "7 by 0 1 2 3 4");
        route("the short way", net, new int[] {0, 5}, 3, "3 by 5");
        route("too much for it", net, new int[] {0, 5}, 4, "4 by 0 1 2 3 4");
        route("round the other way", net, new int[] {0, 4}, 3, "3 by 5 4");
    }

    private static void hops() {
        ChannelNet net = Nets.chain(3, 1000);
        net.route(2, 0, 5);
        Check.same("how many", net.hop(ChannelNet.NONE), 2);
        Check.same("the first one", net.hop(0), 1);
        Check.same("the second one", net.hop(1), 0);
        net.pay(0, 1, 5, 0, 9);
        Check.same("of pay()", net.hop(ChannelNet.NONE), 1);
        Check.same("pay() finds none", net.pay(0, 5, 5, 0, 9), ChannelNet.NONE);
        Check.same("of pay() without one", net.hop(ChannelNet.NONE), 0);
        net.route(2, 0, 5);
        net.close(0);
        Check.same("it stays as it was", net.hop(1), 0);
    }

    private static void pays() {
        ChannelNet net = Nets.chain(4, 1000);
        net.fees(1, 10, 10000, 5);
        net.fees(2, 3, 0, 7);
        net.fees(3, 9, 9, 50);
        Check.same("number", net.pay(0, 3, 100, 0, 20), 0);
        Check.same("nothing is promised yet", net.channel(0, 1), 0);
        Nets.steps("forward", net, 0, 0, 0, 0);
        int[][] made = {{0, 114, 32, 1}, {1, 103, 27, 1}, {2, 100, 20, 1}};
        for (int channel = 0; channel < 3; channel++) {
            for (int what = 0; what < 4; what++) {
                Check.same("promise", net.made(channel, 0, what), made[channel][what]);
            }
        }
        Check.same("deadline 0", net.pay(0, 3, 100, 0, 0), 1);
        Check.same("deadline 1000000000", net.pay(0, 3, 100, 0, 1000000000), 2);
        Nets.steps("forward", net, 2, 0);
        Check.same("a far deadline", net.made(0, 1, 2), 1000000012);
        Check.same("no route, no payment", net.pay(0, 5, 1, 0, 9), ChannelNet.NONE);
        Check.same("numbers go on", net.pay(0, 1, 1, 0, 9), 3);
    }

    private static void keptToTheEnd() {
        ChannelNet net = Nets.chain(4, 1000);
        net.fees(1, 1, 0, 1);
        long lock = net.tell(3, 7);
        net.pay(0, 3, 100, lock, 20);
        Nets.steps("forward", net, 0, 0, 0, 0, 1);
        Nets.payment("all promised", net, 0, 1, 1, 3, 0);
        Nets.steps("back", net, 0, 1);
        Nets.payment("one kept", net, 0, 1, 1, 3, 1);
        Check.yes("the node before knows", net.knows(2, lock));
        Check.no("the next one does not yet", net.knows(1, lock));
        Nets.steps("back", net, 0, 1, 3);
        Nets.payment("all kept", net, 0, 3, 1, 3, 3);
        Check.yes("the sender knows", net.knows(0, lock));
        Check.no("another one knows", net.knows(4, lock));
        Check.same("balance", net.state(0, 2, 0), 899);
        Check.same("balance", net.state(0, 2, 1), 1101);
        Check.same("balance", net.state(2, 2, 1), 1100);
        Check.refuses("DONE", net, Check.STATE, () -> net.step(0));
    }

    private static void turnsBackAtAChannel() {
        ChannelNet net = Nets.chain(4, 1000);
        net.tell(3, 7);
        for (int i = 0; i < 6; i++) {
            net.pay(0, 3, 600, net.lock(7), 20);
        }
        net.promise(1, 1, 401, 0, 9);
        Nets.steps("balance", net, 0, 0, 2);
        Nets.payment("turned", net, 0, 2, 2, 1, 0);
        Check.same("the promise is still there", net.made(0, 0, 3), 1);
        Nets.steps("balance", net, 0, 3);
        Nets.payment("done", net, 0, 3, 2, 1, 1);
        Check.same("dropped", net.state(0, 2, 0), 1000);
        net.drop(1, 0);
        net.promise(1, 1, 400, 0, 9);
        Nets.steps("just enough", net, 1, 0, 0);
        net.promise(2, 2, 401, 0, 9);
        Nets.steps("third channel", net, 1, 2, 2, 3);
        Nets.payment("third channel", net, 1, 3, 2, 2, 2);
        net.publish(2, 2, 0);
        Nets.steps("PUBLISHED", net, 2, 0, 0, 2, 2, 3);
        for (int i = 0; i < 4; i++) {
            net.promise(1, 2, 1, 0, 9);
        }
        Nets.steps("5 promises", net, 3, 0, 0);
        Nets.steps("6 promises, and the sender's balance", net, 4, 3);
        Nets.payment("none was promised", net, 4, 3, 2, 0, 0);
        Check.refuses("DONE", net, Check.STATE, () -> net.step(4));
        Nets.steps("back", net, 3, 2, 2, 3);
        net.promise(1, 2, 1, 0, 9);
        Nets.steps("6 promises", net, 5, 0, 2, 3);
        lateForward();
    }

    private static void lateForward() {
        ChannelNet net = Nets.chain(3, 1000);
        net.pay(0, 2, 10, net.lock(7), 5);
        net.pay(0, 2, 10, net.lock(7), 5);
        net.pay(0, 2, 10, net.lock(7), 5);
        net.grow(4);
        Nets.steps("one below the deadline", net, 0, 0, 0);
        net.grow(1);
        Nets.steps("one below the first one's, at the second one's", net, 1, 0, 2, 3);
        net.grow(1);
        Nets.steps("at the first one's", net, 2, 3);
        Nets.payment("none was promised", net, 2, 3, 2, 0, 0);
    }

    private static void turnsBackAtTheReceiver() {
        ChannelNet net = Nets.chain(3, 1000);
        long lock = net.tell(0, 7);
        net.tell(1, 7);
        net.pay(0, 2, 10, lock, 5);
        net.grow(3);
        Nets.steps("the receiver does not know", net, 0, 0, 0, 2);
        net.tell(2, 7);
        net.grow(9);
        Nets.steps("too late to know, never to drop", net, 0, 2, 3);
        Nets.payment("dropped", net, 0, 3, 2, 2, 2);
        Check.same("balance", net.state(0, 2, 0), 1000);
        Check.same("balance", net.state(1, 2, 0), 1000);
    }

    private static void leftToTheLedger() {
        ChannelNet net = Nets.chain(3, 1000);
        long lock = net.tell(2, 7);
        net.fees(1, 0, 0, 2);
        net.pay(0, 2, 10, lock, 5);
        net.pay(0, 2, 10, lock, 5);
        net.pay(0, 2, 10, lock, 50);
        Nets.steps("forward", net, 0, 0, 0, 1);
        net.grow(5);
        Nets.steps("the last one is late", net, 0, 1);
        Nets.payment("left", net, 0, 1, 1, 2, 0);
        Check.same("it stays", net.made(1, 0, 3), 1);
        Check.no("the node before did not learn", net.knows(1, lock));
        net.grow(1);
        Nets.steps("the first one is not", net, 0, 3);
        Nets.payment("kept", net, 0, 3, 1, 2, 1);
        Check.no("the payee there did not learn, either", net.knows(1, lock));
        Check.yes("but the payer", net.knows(0, lock));
        Nets.steps("forward", net, 1, 0, 2, 3);
        Nets.steps("forward", net, 2, 0, 0, 1);
        net.publish(1, 1, 0);
        Nets.steps("PUBLISHED", net, 2, 1);
        net.publish(0, 1, 0);
        Nets.steps("PUBLISHED", net, 2, 3);
        Nets.payment("none was kept", net, 2, 3, 1, 2, 0);
    }

    private static void endedByOthers() {
        ChannelNet net = Nets.chain(3, 1000);
        long lock = net.tell(2, 7);
        net.pay(0, 2, 10, lock, 50);
        Nets.steps("forward", net, 0, 0, 0);
        net.drop(1, 0);
        net.promise(1, 1, 10, lock, 50);
        Nets.steps("another promise is not its", net, 0, 1, 1);
        Check.same("that one stays", net.made(1, 1, 3), 1);
        net.keep(0, 0, 7);
        Nets.steps("kept by keep()", net, 0, 3);
        Nets.payment("none by it", net, 0, 3, 1, 2, 0);
        Check.same("no state by it", net.channel(0, 1), 2);
    }

    private static void tells() {
        ChannelNet net = Nets.chain(2, 1000);
        net.pay(0, 1, 10, net.lock(7), 50);
        Nets.payment("at first", net, 0, 0, 0, 0, 0);
        net.step(0);
        Nets.payment("promised", net, 0, 0, 0, 1, 0);
    }
}
