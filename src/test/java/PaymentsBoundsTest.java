/** The boundary cases of promises 11 to 15, a test for each sentence that names one. */
public final class PaymentsBoundsTest {
    private static final int NONE = ChannelNet.NONE;
    private static final int FORWARD = ChannelNet.FORWARD;
    private static final int KEPT = ChannelNet.KEPT;
    private static final int DROPPED = ChannelNet.DROPPED;
    private static final int DONE = ChannelNet.DONE;

    public static void main(String[] args) {
        route();
        hop();
        pay();
        step();
        payment();
        Check.end();
    }

    private static void route() {
        Check.sentence("11: the amount of its first channel", PaymentsBoundsTest::routeAmounts);
        Check.sentence("11: NONE if there is none", PaymentsBoundsTest::noRoute);
        Check.sentence("11: IndexOutOfBoundsException", PaymentsBoundsTest::routeNoNode);
        Check.sentence("11: both nodes are one", PaymentsBoundsTest::routeToItself);
        Check.sentence("11: amount is below 1", PaymentsBoundsTest::routeAmountBelow1);
        Check.sentence("11: or above 10000000", PaymentsBoundsTest::routeAmountAbove10000000);
        Check.sentence("11: IndexOutOfBoundsException first", PaymentsBoundsTest::routeIndexFirst);
    }

    private static void hop() {
        Check.sentence("12: how many channels (i = NONE)", PaymentsBoundsTest::hopsFrom0To5);
        Check.sentence("12: 0 if there was none", PaymentsBoundsTest::noHopsAtFirst);
        Check.sentence("12: also when the latest route() found none", PaymentsBoundsTest::noHopsBehindRoute);
        Check.sentence("12: also when the latest pay() found none", PaymentsBoundsTest::noHopsBehindPay);
        Check.sentence("12: its channel i", PaymentsBoundsTest::hopsFromFirstToLast);
        Check.sentence("12: of the latest route", PaymentsBoundsTest::hopsOfLatestRoute);
        Check.sentence("12: IndexOutOfBoundsException", PaymentsBoundsTest::noSuchHop);
    }

    private static void pay() {
        Check.sentence("13: its number", PaymentsBoundsTest::paymentNumbers);
        Check.sentence("13: NONE if there is no route", PaymentsBoundsTest::payWithoutRoute);
        Check.sentence("13: which is the latest one then, also if there is none", PaymentsBoundsTest::payIsLatestRoute);
        Check.sentence("13: its last channel with this deadline", PaymentsBoundsTest::deadlinesOfPay);
        Check.sentence("13: amounts and deadlines as they are now", PaymentsBoundsTest::asTheyAreNow);
        Check.sentence("13: IndexOutOfBoundsException", PaymentsBoundsTest::payNoNode);
        Check.sentence("13: IllegalArgumentException as for route()", PaymentsBoundsTest::payAsForRoute);
        Check.sentence("13: deadline is not 0 .. 1000000000", PaymentsBoundsTest::payDeadlines);
        Check.sentence("13: there are 16", PaymentsBoundsTest::thereAre16);
        Check.sentence("13: also if there is no route", PaymentsBoundsTest::thereAre16AndNoRoute);
        Check.sentence("13: IndexOutOfBoundsException first", PaymentsBoundsTest::payIndexFirst);
        Check.sentence("13: IllegalArgumentException second", PaymentsBoundsTest::payArgumentSecond);
    }

    private static void step() {
        Check.sentence("14: what it is then", PaymentsBoundsTest::whatItIsThen);
        Check.sentence("14: IndexOutOfBoundsException", PaymentsBoundsTest::stepNoPayment);
        Check.sentence("14: it is DONE", PaymentsBoundsTest::stepWhenDone);
        Check.sentence("14: a promise would be the 65th state", PaymentsBoundsTest::stepForwardWith64States);
        Check.sentence("14: a KEPT one would be the 65th state", PaymentsBoundsTest::stepKeptWith64States);
        Check.sentence("14: a DROPPED one would be the 65th state", PaymentsBoundsTest::stepDroppedWith64States);
        Check.sentence("14: no state, so 64 are no matter", PaymentsBoundsTest::stepsThatMakeNoState);
    }

    private static void payment() {
        Check.sentence("15: whether it was KEPT, DROPPED or neither yet", PaymentsBoundsTest::keptDroppedOrNeither);
        Check.sentence("15: how many promises were made", PaymentsBoundsTest::howManyWereMade);
        Check.sentence("15: how many were KEPT or DROPPED by it", PaymentsBoundsTest::howManyWereEnded);
        Check.sentence("15: IndexOutOfBoundsException", PaymentsBoundsTest::noSuchPayment);
        Check.sentence("15: another what", PaymentsBoundsTest::paymentAnotherWhat);
        Check.sentence("15: IndexOutOfBoundsException first", PaymentsBoundsTest::paymentIndexFirst);
    }

    private static void routeAmounts() {
        ChannelNet net = Nets.chain(6, 500000);
        Check.same("the least amount", net.route(0, 5, 1), 1);
        Check.same("all of the balances", net.route(0, 5, 500000), 500000);
        net.fees(1, 10000, 1000000, 1);
        Check.same("the dearest node", net.route(0, 5, 245000), 500000);
        Check.same("one more", net.route(0, 5, 245001), NONE);
        Check.same("it takes no fee as the first node", net.route(1, 5, 500000), 500000);
    }

    private static void noRoute() {
        ChannelNet net = new ChannelNet();
        Check.same("no channel", net.route(0, 5, 1), NONE);
        net.open(0, 1, 10, 0);
        Check.same("no channel that leads there", net.route(0, 2, 1), NONE);
        Check.same("nothing on that side", net.route(1, 0, 1), NONE);
        Check.same("too much", net.route(0, 1, 11), NONE);
        Check.same("just enough", net.route(0, 1, 10), 10);
        net.publish(0, 0, 0);
        Check.same("not OPEN", net.route(0, 1, 10), NONE);
    }

    private static void routeNoNode() {
        ChannelNet net = Nets.chain(6, 10);
        net.route(0, 5, 1);
        Check.refusesEach("from", net, Check.INDEX, Check.outside(0, 5), node -> net.route(node, 0, 1));
        Check.refusesEach("to", net, Check.INDEX, Check.outside(0, 5), node -> net.route(0, node, 1));
    }

    private static void routeToItself() {
        ChannelNet net = Nets.chain(6, 10);
        net.open(5, 0, 10, 10);
        net.route(0, 4, 1);
        for (int node = 0; node < 6; node++) {
            int both = node;
            Check.refuses("node " + node, net, Check.ARGUMENT, () -> net.route(both, both, 1));
        }
    }

    private static void routeAmountBelow1() {
        ChannelNet net = Nets.chain(3, 10);
        net.route(0, 2, 1);
        int[] below = {0, -1, Integer.MIN_VALUE};
        Check.refusesEach("amount", net, Check.ARGUMENT, below, amount -> net.route(0, 1, amount));
        Check.same("1", net.route(0, 1, 1), 1);
    }

    private static void routeAmountAbove10000000() {
        ChannelNet net = Nets.chain(3, 1000);
        net.fees(1, 10000, 1000000, 1);
        net.route(0, 1, 1);
        int[] above = {10000001, Integer.MAX_VALUE};
        Check.refusesEach("amount", net, Check.ARGUMENT, above, amount -> net.route(0, 2, amount));
        Check.same("10000000", net.route(0, 2, 10000000), NONE);
    }

    private static void routeIndexFirst() {
        ChannelNet net = Nets.chain(3, 10);
        Check.refuses("both are one", net, Check.INDEX, () -> net.route(6, 6, 1));
        Check.refuses("amount", net, Check.INDEX, () -> net.route(0, 6, 0));
        Check.refuses("amount", net, Check.INDEX, () -> net.route(-1, 0, 10000001));
    }

    private static void hopsFrom0To5() {
        ChannelNet net = Nets.chain(6, 10);
        for (int to = 1; to < 6; to++) {
            net.route(0, to, 1);
            Check.same("channels to " + to, net.hop(NONE), to);
        }
        net.route(0, 5, 11);
        Check.same("none", net.hop(NONE), 0);
    }

    private static void noHopsAtFirst() {
        ChannelNet net = Nets.chain(6, 10);
        Check.same("at first", net.hop(NONE), 0);
        Check.refusesEach("hop", net, Check.INDEX, new int[] {0, 1, 4}, i -> net.hop(i));
    }

    private static void noHopsBehindRoute() {
        ChannelNet net = Nets.chain(3, 10);
        net.route(0, 2, 5);
        net.route(0, 2, 11);
        Check.same("route() found none", net.hop(NONE), 0);
        Check.refuses("hop 0", net, Check.INDEX, () -> net.hop(0));
    }

    private static void noHopsBehindPay() {
        ChannelNet net = Nets.chain(3, 10);
        net.route(0, 2, 5);
        net.pay(0, 2, 11, 0, 9);
        Check.same("pay() found none", net.hop(NONE), 0);
        Check.refuses("hop 0", net, Check.INDEX, () -> net.hop(0));
    }

    private static void hopsFromFirstToLast() {
        ChannelNet net = Nets.chain(6, 10);
        net.route(5, 0, 1);
        for (int i = 0; i < 5; i++) {
            Check.same("hop " + i, net.hop(i), 4 - i);
        }
    }

    private static void hopsOfLatestRoute() {
        ChannelNet net = Nets.chain(4, 10);
        net.route(0, 3, 1);
        net.route(2, 3, 1);
        Check.same("of route()", net.hop(0), 2);
        net.pay(0, 2, 1, 0, 9);
        Check.same("of pay()", net.hop(NONE), 2);
        Check.refuses("a refused route()", net, Check.ARGUMENT, () -> net.route(0, 0, 1));
        Check.refuses("a refused pay()", net, Check.ARGUMENT, () -> net.pay(0, 1, 1, 0, -1));
        net.step(0);
        net.close(2);
        Check.same("it stays as it was found", net.hop(NONE), 2);
        Check.same("it stays as it was found", net.hop(1), 1);
    }

    private static void noSuchHop() {
        ChannelNet net = Nets.chain(6, 10);
        net.route(0, 3, 1);
        Check.refusesEach("of 3, hop", net, Check.INDEX, Check.outside(-1, 2), i -> net.hop(i));
        net.route(0, 5, 1);
        Check.refusesEach("of 5, hop", net, Check.INDEX, Check.outside(-1, 4), i -> net.hop(i));
    }

    private static void paymentNumbers() {
        ChannelNet net = Nets.chain(3, 10);
        Check.same("first", net.pay(0, 2, 1, 0, 9), 0);
        Check.same("no route", net.pay(0, 5, 1, 0, 9), NONE);
        Check.refuses("a refused one", net, Check.ARGUMENT, () -> net.pay(0, 2, 0, 0, 9));
        Check.same("these take no number", net.pay(2, 0, 1, 0, 9), 1);
    }

    private static void payWithoutRoute() {
        ChannelNet net = Nets.chain(3, 10);
        Check.same("too much", net.pay(0, 2, 11, 0, 9), NONE);
        Check.same("no way", net.pay(0, 3, 1, 0, 9), NONE);
        Check.refuses("there is no payment", net, Check.INDEX, () -> net.payment(0, 0));
        for (int i = 0; i < 20; i++) {
            net.pay(0, 3, 1, 0, 9);
        }
        Check.same("none counts", net.pay(0, 2, 10, 0, 9), 0);
    }

    private static void payIsLatestRoute() {
        ChannelNet net = Nets.chain(3, 10);
        net.pay(0, 2, 1, 0, 9);
        Check.same("with route", net.hop(NONE), 2);
        Check.same("its first channel", net.hop(0), 0);
        net.pay(0, 2, 11, 0, 9);
        Check.same("without route", net.hop(NONE), 0);
    }

    private static void deadlinesOfPay() {
        ChannelNet net = Nets.chain(6, 10);
        for (int node = 0; node < 6; node++) {
            net.fees(node, 0, 0, 100);
        }
        net.pay(0, 5, 1, 0, 1000000000);
        for (int channel = 0; channel < 5; channel++) {
            net.step(0);
            Check.same("channel " + channel, net.made(channel, 0, 2), 1000000400 - 100 * channel);
        }
    }

    private static void asTheyAreNow() {
        ChannelNet net = Nets.chain(3, 1000);
        net.fees(1, 5, 0, 7);
        net.pay(0, 2, 10, 0, 50);
        net.fees(1, 6, 0, 8);
        net.open(0, 2, 100, 100);
        net.grow(3);
        Nets.steps("forward", net, 0, FORWARD, FORWARD);
        Check.same("amount", net.made(0, 0, 1), 15);
        Check.same("deadline", net.made(0, 0, 2), 57);
        Check.same("a shorter way that came later", net.channel(2, 1), 0);
    }

    private static void payNoNode() {
        ChannelNet net = Nets.chain(6, 10);
        net.route(0, 5, 1);
        Check.refusesEach("from", net, Check.INDEX, Check.outside(0, 5), node -> net.pay(node, 0, 1, 0, 9));
        Check.refusesEach("to", net, Check.INDEX, Check.outside(0, 5), node -> net.pay(0, node, 1, 0, 9));
    }

    private static void payAsForRoute() {
        ChannelNet net = Nets.chain(3, 10);
        net.route(0, 1, 1);
        Check.refuses("both are one", net, Check.ARGUMENT, () -> net.pay(2, 2, 1, 0, 9));
        int[] wrong = {0, -1, Integer.MIN_VALUE, 10000001, Integer.MAX_VALUE};
        Check.refusesEach("amount", net, Check.ARGUMENT, wrong, amount -> net.pay(0, 2, amount, 0, 9));
        Check.same("1", net.pay(0, 2, 1, 0, 9), 0);
        Check.same("10000000", net.pay(0, 2, 10000000, 0, 9), NONE);
    }

    private static void payDeadlines() {
        ChannelNet net = Nets.chain(3, 10);
        net.route(0, 1, 1);
        Check.refusesEach("deadline", net, Check.ARGUMENT, Check.outside(0, 1000000000), d -> net.pay(0, 2, 1, 0, d));
        Check.same("0", net.pay(0, 2, 1, 0, 0), 0);
        Check.same("1000000000", net.pay(0, 2, 1, 0, 1000000000), 1);
        net.grow(9);
        Check.same("one that is over", net.pay(0, 2, 1, 0, 3), 2);
        Nets.steps("it can only be dropped", net, 2, DONE);
    }

    private static void thereAre16() {
        ChannelNet net = Nets.chain(3, 10);
        for (int number = 0; number < 16; number++) {
            Check.same("number", net.pay(0, 2, 1, 0, 0), number);
        }
        Check.refuses("the 17th", net, Check.STATE, () -> net.pay(0, 1, 1, 0, 9));
        net.step(0);
        net.grow(1);
        net.step(1);
        Check.same("one is DONE", net.payment(1, 0), DONE);
        Check.refuses("DONE ones count", net, Check.STATE, () -> net.pay(0, 1, 1, 0, 9));
        Check.same("the last one", net.payment(15, 0), FORWARD);
    }

    private static void thereAre16AndNoRoute() {
        ChannelNet net = Nets.chain(3, 10);
        for (int number = 0; number < 15; number++) {
            net.pay(0, 2, 1, 0, 9);
        }
        Check.same("15 and no route", net.pay(0, 5, 1, 0, 9), NONE);
        net.pay(0, 2, 1, 0, 9);
        Check.refuses("16 and no route", net, Check.STATE, () -> net.pay(0, 5, 1, 0, 9));
        Check.refuses("16 and too much", net, Check.STATE, () -> net.pay(0, 2, 11, 0, 9));
        Check.same("the latest route stays", net.hop(NONE), 2);
    }

    private static void fillPayments(ChannelNet net) {
        for (int number = 0; number < 16; number++) {
            net.pay(0, 2, 1, 0, 9);
        }
    }

    private static void payIndexFirst() {
        ChannelNet net = Nets.chain(3, 10);
        Check.refuses("both are one", net, Check.INDEX, () -> net.pay(-1, -1, 1, 0, 9));
        Check.refuses("amount", net, Check.INDEX, () -> net.pay(0, 6, 0, 0, 9));
        Check.refuses("deadline", net, Check.INDEX, () -> net.pay(6, 0, 1, 0, -1));
        fillPayments(net);
        Check.refuses("there are 16", net, Check.INDEX, () -> net.pay(0, 6, 1, 0, 9));
    }

    private static void payArgumentSecond() {
        ChannelNet net = Nets.chain(3, 10);
        fillPayments(net);
        Check.refuses("both are one", net, Check.ARGUMENT, () -> net.pay(1, 1, 1, 0, 9));
        Check.refuses("amount", net, Check.ARGUMENT, () -> net.pay(0, 1, 0, 0, 9));
        Check.refuses("amount", net, Check.ARGUMENT, () -> net.pay(0, 1, 10000001, 0, 9));
        Check.refuses("deadline", net, Check.ARGUMENT, () -> net.pay(0, 1, 1, 0, -1));
        Check.refuses("deadline, no route", net, Check.ARGUMENT, () -> net.pay(0, 5, 1, 0, 1000000001));
    }

    private static void whatItIsThen() {
        ChannelNet net = Nets.chain(6, 10);
        long lock = net.tell(5, 7);
        net.pay(0, 5, 10, lock, 9);
        Nets.steps("5 channels", net, 0, FORWARD, FORWARD, FORWARD, FORWARD, FORWARD,
                KEPT, KEPT, KEPT, KEPT, KEPT, DONE);
        net.pay(5, 4, 10, 0, 9);
        Nets.steps("1 channel", net, 1, FORWARD, DROPPED, DONE);
    }

    private static void stepNoPayment() {
        ChannelNet net = Nets.chain(3, 10);
        Check.refuses("there is none", net, Check.INDEX, () -> net.step(0));
        net.pay(0, 2, 1, 0, 9);
        Check.refusesEach("payment", net, Check.INDEX, Check.outside(0, 0), payment -> net.step(payment));
    }

    private static void stepWhenDone() {
        ChannelNet net = Nets.chain(2, 10);
        long lock = net.tell(1, 7);
        net.pay(0, 1, 1, lock, 9);
        Nets.steps("kept", net, 0, FORWARD, KEPT, DONE);
        Check.refuses("kept", net, Check.STATE, () -> net.step(0));
        net.pay(0, 1, 1, net.lock(8), 9);
        Nets.steps("dropped", net, 1, FORWARD, DROPPED, DONE);
        Check.refuses("dropped", net, Check.STATE, () -> net.step(1));
        net.pay(0, 1, 1, lock, 0);
        Nets.steps("without a promise", net, 2, DONE);
        Check.refuses("without a promise", net, Check.STATE, () -> net.step(2));
    }

    private static void stepForwardWith64States() {
        ChannelNet net = Nets.chain(3, 10);
        net.pay(0, 2, 1, 0, 9);
        net.pay(0, 2, 1, 0, 9);
        Nets.fillStates(net, 0, 1, 61);
        Nets.fillStates(net, 1, 2, 62);
        Nets.steps("the 63rd and the 64th", net, 0, FORWARD, FORWARD);
        Check.same("the 64th state", net.channel(1, 1), 63);
        Nets.steps("the 64th", net, 1, FORWARD);
        Check.refuses("a 65th", net, Check.STATE, () -> net.step(1));
        Nets.payment("as it was", net, 1, FORWARD, 0, 1, 0);
        Check.same("a route does not look at states", net.route(1, 2, 1), 1);
    }

    private static void stepKeptWith64States() {
        ChannelNet net = Nets.chain(2, 10);
        long lock = net.tell(1, 7);
        net.pay(0, 1, 1, lock, 9);
        net.pay(0, 1, 1, lock, 9);
        Nets.fillStates(net, 0, 1, 60);
        Nets.steps("the 62nd", net, 0, FORWARD, KEPT);
        Nets.steps("the 63rd", net, 1, FORWARD, KEPT);
        Nets.steps("the 64th", net, 0, DONE);
        Check.refuses("a 65th", net, Check.STATE, () -> net.step(1));
        Nets.payment("as it was", net, 1, KEPT, KEPT, 1, 0);
        Check.same("the promise is still there", net.made(0, 31, 3), 1);
    }

    private static void stepDroppedWith64States() {
        ChannelNet net = Nets.chain(2, 10);
        net.pay(0, 1, 1, net.lock(7), 9);
        net.pay(0, 1, 1, net.lock(7), 9);
        Nets.fillStates(net, 0, 1, 60);
        Nets.steps("the 62nd", net, 0, FORWARD, DROPPED);
        Nets.steps("the 63rd", net, 1, FORWARD, DROPPED);
        Nets.steps("the 64th", net, 0, DONE);
        Check.refuses("a 65th", net, Check.STATE, () -> net.step(1));
        Nets.payment("as it was", net, 1, DROPPED, DROPPED, 1, 0);
        net.publish(0, 0, 63);
        Nets.steps("left to the ledger", net, 1, DONE);
    }

    private static void stepsThatMakeNoState() {
        ChannelNet net = Nets.chain(2, 10);
        long lock = net.tell(1, 7);
        net.pay(0, 1, 10, 0, 9);
        net.pay(0, 1, 1, 0, 0);
        net.pay(0, 1, 1, lock, 5);
        Nets.fillStates(net, 0, 0, 61);
        net.promise(0, 0, 1, 0, 900);
        net.step(2);
        Check.same("64 states", net.channel(0, 1), 63);
        Nets.steps("the balance is less", net, 0, DONE);
        Nets.steps("the deadline is not above HEIGHT", net, 1, DONE);
        Nets.steps("it turns back", net, 2, KEPT);
        Check.refuses("kept", net, Check.STATE, () -> net.step(2));
        net.grow(5);
        Nets.steps("too late to be kept", net, 2, DONE);
        Nets.payment("left to the ledger", net, 2, DONE, KEPT, 1, 0);
    }

    private static void keptDroppedOrNeither() {
        ChannelNet net = Nets.chain(2, 10);
        net.pay(0, 1, 1, 0, 9);
        Check.same("at first", net.payment(0, 1), 0);
        net.step(0);
        Check.same("promised", net.payment(0, 1), 0);
        net.step(0);
        Check.same("DROPPED", net.payment(0, 1), DROPPED);
        net.step(0);
        Check.same("and DONE", net.payment(0, 1), DROPPED);
        net.tell(1, 0);
        net.pay(0, 1, 1, 0, 9);
        net.step(1);
        net.step(1);
        Check.same("KEPT", net.payment(1, 1), KEPT);
        net.step(1);
        Check.same("and DONE", net.payment(1, 1), KEPT);
        net.pay(0, 1, 1, 0, 0);
        net.step(2);
        Check.same("DROPPED without a promise", net.payment(2, 1), DROPPED);
    }

    private static void howManyWereMade() {
        ChannelNet net = Nets.chain(6, 10);
        net.pay(0, 5, 1, 0, 9);
        for (int made = 0; made < 5; made++) {
            Check.same("made", net.payment(0, 2), made);
            net.step(0);
        }
        Check.same("all of them", net.payment(0, 2), 5);
        net.step(0);
        net.step(0);
        Check.same("one that went was made", net.payment(0, 2), 5);
        net.pay(0, 5, 1, 0, 0);
        net.grow(9);
        net.step(1);
        Check.same("none", net.payment(1, 2), 0);
    }

    private static void howManyWereEnded() {
        ChannelNet net = Nets.chain(4, 10);
        net.tell(3, 0);
        net.pay(0, 3, 1, 0, 9);
        Nets.steps("forward", net, 0, FORWARD, FORWARD, FORWARD, KEPT);
        Check.same("none yet", net.payment(0, 3), 0);
        net.keep(1, 0, 0);
        net.step(0);
        Check.same("one", net.payment(0, 3), 1);
        net.step(0);
        Check.same("not one by keep()", net.payment(0, 3), 1);
        net.step(0);
        Check.same("two at last", net.payment(0, 3), 2);
    }

    private static void noSuchPayment() {
        ChannelNet net = Nets.chain(3, 10);
        Check.refusesEach("none, payment", net, Check.INDEX, Check.outside(0, -1), p -> net.payment(p, 0));
        fillPayments(net);
        Check.refusesEach("16, payment", net, Check.INDEX, Check.outside(0, 15), p -> net.payment(p, 0));
    }

    private static void paymentAnotherWhat() {
        ChannelNet net = Nets.chain(3, 10);
        net.pay(0, 2, 1, 0, 9);
        Check.refusesEach("what", net, Check.ARGUMENT, Check.outside(0, 3), what -> net.payment(0, what));
    }

    private static void paymentIndexFirst() {
        ChannelNet net = Nets.chain(3, 10);
        net.pay(0, 2, 1, 0, 9);
        Check.refuses("both", net, Check.INDEX, () -> net.payment(1, 4));
        Check.refuses("both", net, Check.INDEX, () -> net.payment(-1, -1));
    }
}
