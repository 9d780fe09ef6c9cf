/** The boundary cases of what 'Terms' says of routes and payments, a test for each sentence that names one. */
public final class TermsOfPaymentsBoundsTest {
    private static final int FORWARD = ChannelNet.FORWARD;
    private static final int KEPT = ChannelNet.KEPT;
    private static final int DROPPED = ChannelNet.DROPPED;
    private static final int DONE = ChannelNet.DONE;

    public static void main(String[] args) {
        routes();
        forward();
        back();
        Check.end();
    }

    private static void routes() {
        Check.sentence("one channel or more", TermsOfPaymentsBoundsTest::oneChannelToFive);
        Check.sentence("no node twice", TermsOfPaymentsBoundsTest::noNodeTwice);
        Check.sentence("the last channel's amount is m, its deadline d", TermsOfPaymentsBoundsTest::lastChannelsAmount);
        Check.sentence("the FEE of the node between", TermsOfPaymentsBoundsTest::onlyNodesBetween);
        Check.sentence("(cut off)", TermsOfPaymentsBoundsTest::feesAreCutOff);
        Check.sentence("a fee's product is greater than an int", TermsOfPaymentsBoundsTest::greatFees);
        Check.sentence("DELTA of that node", TermsOfPaymentsBoundsTest::deltasBetween);
        Check.sentence("each channel is OPEN", TermsOfPaymentsBoundsTest::routeOverOpenOnes);
        Check.sentence("has at most 5 promises", TermsOfPaymentsBoundsTest::routeWith5Promises);
        Check.sentence("its payer's balance is at least its amount", TermsOfPaymentsBoundsTest::routeWithJustEnough);
        Check.sentence("the least amount in its first channel", TermsOfPaymentsBoundsTest::leastAmount);
        Check.sentence("of these the fewest channels", TermsOfPaymentsBoundsTest::fewestChannels);
        Check.sentence("the least number of its first channel, then of its second", TermsOfPaymentsBoundsTest::leastNumbers);
    }

    private static void forward() {
        Check.sentence("FORWARD: if it is OPEN", TermsOfPaymentsBoundsTest::forwardIfOpen);
        Check.sentence("FORWARD: with at most 5 promises", TermsOfPaymentsBoundsTest::forwardWith5Promises);
        Check.sentence("FORWARD: a balance of the payer that is enough", TermsOfPaymentsBoundsTest::forwardWithJustEnough);
        Check.sentence("FORWARD: the deadline above HEIGHT", TermsOfPaymentsBoundsTest::forwardAboveHeight);
        Check.sentence("else the payment turns BACK as DROPPED", TermsOfPaymentsBoundsTest::turnsBack);
        Check.sentence("if the receiver KNOWS the secret of the lock", TermsOfPaymentsBoundsTest::receiverKnows);
        Check.sentence("else as DROPPED (that is a step)", TermsOfPaymentsBoundsTest::receiverDoesNotKnow);
    }

    private static void back() {
        Check.sentence("BACK: from the last channel to the first one", TermsOfPaymentsBoundsTest::backFromTheLast);
        Check.sentence("BACK: if it is still there", TermsOfPaymentsBoundsTest::backIfStillThere);
        Check.sentence("BACK: and the channel is OPEN", TermsOfPaymentsBoundsTest::backIfOpen);
        Check.sentence("BACK: to be KEPT, the deadline must be above HEIGHT", TermsOfPaymentsBoundsTest::backKeptInTime);
        Check.sentence("BACK: to be DROPPED, it need not", TermsOfPaymentsBoundsTest::backDroppedAnyTime);
        Check.sentence("learns the secret only where it is KEPT; but all go on", TermsOfPaymentsBoundsTest::learnsWhereKept);
        Check.sentence("behind the last of these the payment is DONE, in that step", TermsOfPaymentsBoundsTest::doneInThatStep);
        Check.sentence("or if there was none", TermsOfPaymentsBoundsTest::doneWithoutPromise);
    }

    private static void route(String what, ChannelNet net, int[] ends, int amount, String want) {
        Check.text(what, Nets.route(net, ends[0], ends[1], amount), want);
    }

    private static void oneChannelToFive() {
        ChannelNet net = Nets.chain(6, 10);
        route("one", net, new int[] {4, 5}, 10, "10 by 4");
        route("five", net, new int[] {0, 5}, 10, "10 by 0 1 2 3 4");
        route("five back", net, new int[] {5, 0}, 10, "10 by 4 3 2 1 0");
    }

    private static void noNodeTwice() {
        ChannelNet net = new ChannelNet();
        net.open(0, 1, 10, 10);
        net.open(0, 1, 10, 10);
        route("to and fro leads nowhere", net, new int[] {0, 2}, 1, "-1 by");
        net.open(1, 2, 10, 10);
        net.open(2, 0, 10, 10);
        route("not round and round", net, new int[] {0, 3}, 1, "-1 by");
        net.open(0, 3, 10, 10);
        route("not round before it goes on", net, new int[] {0, 3}, 1, "1 by 4");
        route("two channels of the same nodes are not both used", net, new int[] {0, 1}, 11, "-1 by");
    }

    private static void lastChannelsAmount() {
        ChannelNet net = Nets.chain(3, 1000);
        net.fees(1, 3, 0, 4);
        net.fees(2, 5, 0, 6);
        net.pay(0, 2, 10, 0, 20);
        net.step(0);
        net.step(0);
        Check.same("the last amount", net.made(1, 0, 1), 10);
        Check.same("the last deadline", net.made(1, 0, 2), 20);
        net.pay(0, 1, 10, 0, 20);
        net.step(1);
        Check.same("the only amount", net.made(0, 1, 1), 10);
        Check.same("the only deadline", net.made(0, 1, 2), 20);
    }

    private static void onlyNodesBetween() {
        ChannelNet net = Nets.chain(4, 100000);
        net.fees(0, 10000, 1000000, 100);
        net.fees(3, 10000, 1000000, 100);
        Check.same("not of the ends", net.route(0, 3, 1000), 1000);
        net.fees(1, 7, 100000, 1);
        net.fees(2, 50, 0, 1);
        Check.same("from the last one to the first one", net.route(0, 3, 1000), 1162);
        Check.same("and the other way", net.route(3, 0, 1000), 1157);
    }

    private static void feesAreCutOff() {
        ChannelNet net = Nets.chain(3, 100000);
        net.fees(1, 0, 999999, 1);
        Check.same("just below 1", net.route(0, 2, 1), 1);
        Check.same("just below 2", net.route(0, 2, 2), 3);
        net.fees(1, 0, 1000000, 1);
        Check.same("just 1", net.route(0, 2, 1), 2);
        net.fees(1, 3, 1, 1);
        Check.same("only BASE", net.route(0, 2, 1), 4);
    }

    private static void greatFees() {
        ChannelNet net = new ChannelNet();
        net.open(0, 1, 1000000, 0);
        net.open(1, 2, 1000000, 0);
        net.fees(1, 0, 1000000, 1);
        Check.same("500000000000", net.route(0, 2, 500000), 1000000);
        net.fees(1, 10000, 999999, 1);
        Check.same("494999505000", net.route(0, 2, 495000), 999999);
        Check.same("just too much", net.route(0, 2, 495001), ChannelNet.NONE);
        Check.same("far too much", net.route(0, 2, 1000000), ChannelNet.NONE);
        Check.same("more than there is", net.route(0, 2, 10000000), ChannelNet.NONE);
    }

    private static void deltasBetween() {
        ChannelNet net = Nets.chain(4, 10);
        net.fees(0, 0, 0, 50);
        net.fees(1, 0, 0, 1);
        net.fees(2, 0, 0, 100);
        net.fees(3, 0, 0, 50);
        net.pay(0, 3, 1, 0, 0);
        Nets.steps("the last one is too late at height 0", net, 0, FORWARD, FORWARD, DROPPED);
        Check.same("the second one", net.made(1, 0, 2), 100);
        Check.same("the first one", net.made(0, 0, 2), 101);
    }

    private static void routeOverOpenOnes() {
        ChannelNet net = Nets.chain(3, 10);
        route("both are OPEN", net, new int[] {0, 2}, 1, "1 by 0 1");
        net.publish(1, 1, 0);
        route("the last one is PUBLISHED", net, new int[] {0, 2}, 1, "-1 by");
        net.open(1, 2, 10, 10);
        route("another one is OPEN", net, new int[] {0, 2}, 1, "1 by 0 2");
        net.close(0);
        route("the first one is CLOSED", net, new int[] {0, 2}, 1, "-1 by");
    }

    private static void routeWith5Promises() {
        ChannelNet net = Nets.chain(3, 10);
        for (int i = 0; i < 5; i++) {
            net.promise(1, 2, 1, 0, 9);
        }
        route("5", net, new int[] {0, 2}, 1, "1 by 0 1");
        net.promise(1, 2, 1, 0, 9);
        route("6", net, new int[] {0, 2}, 1, "-1 by");
        net.drop(1, 3);
        route("5 again", net, new int[] {0, 2}, 1, "1 by 0 1");
    }

    private static void routeWithJustEnough() {
        ChannelNet net = new ChannelNet();
        net.open(0, 1, 13, 0);
        net.open(2, 1, 0, 10);
        net.fees(1, 3, 0, 1);
        route("just enough in both", net, new int[] {0, 2}, 10, "13 by 0 1");
        route("too much for the last one", net, new int[] {0, 2}, 11, "-1 by");
        net.fees(1, 4, 0, 1);
        route("too much for the first one", net, new int[] {0, 2}, 10, "-1 by");
        route("just enough for it", net, new int[] {0, 2}, 9, "13 by 0 1");
        net.promise(0, 0, 1, 0, 9);
        route("of the latest state", net, new int[] {0, 2}, 9, "-1 by");
    }

    /** From 0 to 3: at once by channel 0, over 1 by channels 1 and 2, over 2 by channels 3 and 4. */
    private static ChannelNet threeWays() {
        ChannelNet net = new ChannelNet();
        net.open(0, 3, 10, 0);
        net.open(0, 1, 100, 0);
        net.open(1, 3, 100, 0);
        net.open(0, 2, 100, 0);
        net.open(2, 3, 100, 0);
        return net;
    }

    private static void leastAmount() {
        ChannelNet net = threeWays();
        net.fees(1, 1, 0, 1);
        route("before numbers", net, new int[] {0, 3}, 50, "50 by 3 4");
        net.fees(2, 2, 0, 1);
        route("one less", net, new int[] {0, 3}, 50, "51 by 1 2");
        net.open(2, 4, 100, 0);
        net.open(4, 3, 100, 0);
        net.fees(2, 0, 0, 1);
        net.publish(4, 2, 0);
        route("before the count of channels", net, new int[] {0, 3}, 50, "50 by 3 5 6");
    }

    private static void fewestChannels() {
        ChannelNet net = threeWays();
        route("before numbers", net, new int[] {0, 3}, 10, "10 by 0");
        net.open(0, 3, 100, 0);
        route("the greatest number", net, new int[] {0, 3}, 11, "11 by 5");
        net.fees(1, 1, 0, 1);
        net.fees(2, 1, 0, 1);
        net.publish(5, 0, 0);
        route("no other is left", net, new int[] {0, 3}, 11, "12 by 1 2");
    }

    private static void leastNumbers() {
        ChannelNet net = new ChannelNet();
        net.open(2, 3, 100, 0);
        net.open(0, 1, 100, 0);
        net.open(0, 2, 100, 0);
        net.open(1, 3, 100, 0);
        net.open(1, 3, 100, 0);
        net.open(0, 1, 100, 0);
        route("the first channel's before the second one's", net, new int[] {0, 3}, 9, "9 by 1 3");
        net.publish(3, 1, 0);
        route("then the second one's", net, new int[] {0, 3}, 9, "9 by 1 4");
        net.publish(1, 1, 0);
        route("the first channel's", net, new int[] {0, 3}, 9, "9 by 2 0");
        net.publish(0, 2, 0);
        route("what is left", net, new int[] {0, 3}, 9, "9 by 5 4");
        leastNumbersInLongRoutes();
    }

    private static void leastNumbersInLongRoutes() {
        ChannelNet net = Nets.chain(6, 100);
        net.open(2, 3, 100, 100);
        net.open(1, 0, 100, 100);
        route("of four ways over all nodes", net, new int[] {0, 5}, 9, "9 by 0 1 2 3 4");
        net.publish(0, 0, 0);
        route("the first channel is another one", net, new int[] {0, 5}, 9, "9 by 6 1 2 3 4");
        net.publish(2, 2, 0);
        route("the third channel is another one", net, new int[] {0, 5}, 9, "9 by 6 1 5 3 4");
        route("a short one behind a long one", net, new int[] {2, 3}, 9, "9 by 5");
    }

    private static void forwardIfOpen() {
        ChannelNet net = Nets.payments();
        net.step(0);
        net.publish(1, 1, 0);
        Nets.steps("the next one is PUBLISHED", net, 0, DROPPED);
        net.step(0);
        net.close(0);
        Nets.steps("the first one is CLOSED", net, 1, DONE);
    }

    private static void forwardWith5Promises() {
        ChannelNet net = Nets.payments();
        net.step(0);
        for (int i = 0; i < 5; i++) {
            net.promise(1, 2, 1, 0, 9);
        }
        Nets.steps("5", net, 0, FORWARD);
        net.step(1);
        Nets.steps("6", net, 1, DROPPED);
    }

    private static void forwardWithJustEnough() {
        ChannelNet net = Nets.payments();
        net.promise(0, 0, 5, 0, 9);
        net.promise(1, 1, 6, 0, 9);
        Nets.steps("just enough", net, 0, FORWARD);
        Check.same("nothing is left", net.state(0, 2, 0), 0);
        Nets.steps("1 too few", net, 0, DROPPED);
        Nets.steps("nothing", net, 1, DONE);
    }

    private static void forwardAboveHeight() {
        ChannelNet net = Nets.payments();
        net.grow(4);
        Nets.steps("one below the deadline", net, 0, FORWARD, FORWARD);
        net.grow(1);
        Nets.steps("at the deadline of the last one", net, 1, FORWARD, DROPPED);
        ChannelNet late = Nets.payments();
        late.grow(6);
        Nets.steps("at the deadline of the first one", late, 0, DONE);
    }

    private static void turnsBack() {
        ChannelNet net = Nets.payments();
        net.step(0);
        net.close(1);
        int latest = net.channel(0, 1);
        Nets.steps("to turn is a step", net, 0, DROPPED);
        Check.same("nothing is dropped yet", net.channel(0, 1), latest);
        Nets.payment("turned", net, 0, DROPPED, DROPPED, 1, 0);
        Nets.steps("then it is dropped", net, 0, DONE);
        Nets.payment("done", net, 0, DONE, DROPPED, 1, 1);
    }

    private static void receiverKnows() {
        ChannelNet net = Nets.chain(2, 10);
        net.pay(0, 1, 1, net.lock(7), 5);
        net.step(0);
        net.tell(1, 7);
        net.grow(9);
        Nets.steps("told at last, whatever the height is", net, 0, KEPT);
        Check.same("to turn makes no state", net.channel(0, 1), 1);
    }

    private static void receiverDoesNotKnow() {
        ChannelNet net = Nets.chain(3, 10);
        net.tell(0, 7);
        net.tell(1, 7);
        net.tell(2, 8);
        net.pay(0, 2, 1, net.lock(7), 5);
        Nets.steps("all but the receiver know it", net, 0, FORWARD, FORWARD, DROPPED);
        net.tell(2, 7);
        Nets.steps("told too late", net, 0, DROPPED, DONE);
        Nets.payment("dropped", net, 0, DONE, DROPPED, 2, 2);
    }

    private static void backFromTheLast() {
        ChannelNet net = Nets.payments();
        Nets.steps("forward", net, 0, FORWARD, FORWARD, KEPT);
        Nets.steps("back", net, 0, KEPT);
        Check.same("the last one went", net.made(1, 0, 3), 0);
        Check.same("the first one is there", net.made(0, 0, 3), 1);
        Nets.steps("back", net, 0, DONE);
        Check.same("the first one went", net.made(0, 0, 3), 0);
    }

    private static void backIfStillThere() {
        ChannelNet net = Nets.payments();
        Nets.steps("forward", net, 0, FORWARD, FORWARD, KEPT);
        net.drop(1, 0);
        net.keep(0, 0, 7);
        int last = net.channel(1, 1);
        Nets.steps("back", net, 0, KEPT, DONE);
        Nets.payment("none was ended by it", net, 0, DONE, KEPT, 2, 0);
        Check.same("no state", net.channel(1, 1), last);
        Check.same("no state", net.channel(0, 1), 2);
    }

    private static void backIfOpen() {
        ChannelNet net = Nets.payments();
        Nets.steps("forward", net, 0, FORWARD, FORWARD, KEPT);
        net.publish(1, 1, 1);
        Nets.steps("PUBLISHED", net, 0, KEPT);
        Check.same("it is left", net.made(1, 0, 3), 1);
        net.publish(0, 1, 0);
        net.punish(0);
        Nets.steps("CLOSED", net, 0, DONE);
        Nets.payment("none was ended by it", net, 0, DONE, KEPT, 2, 0);
        Check.same("no state", net.channel(0, 1), 1);
    }

    private static void backKeptInTime() {
        ChannelNet net = Nets.payments();
        Nets.steps("forward", net, 0, FORWARD, FORWARD, KEPT);
        Nets.steps("forward", net, 1, FORWARD, FORWARD, KEPT);
        net.grow(4);
        Nets.steps("one below the deadline", net, 0, KEPT);
        Nets.payment("kept", net, 0, KEPT, KEPT, 2, 1);
        net.grow(1);
        Nets.steps("at the deadline", net, 1, KEPT);
        Nets.payment("left", net, 1, KEPT, KEPT, 2, 0);
        Nets.steps("one below the first one's deadline", net, 0, DONE);
        Nets.payment("kept", net, 0, DONE, KEPT, 2, 2);
        net.grow(1);
        Nets.steps("at the first one's deadline", net, 1, DONE);
        Nets.payment("left", net, 1, DONE, KEPT, 2, 0);
        Check.same("it is still there", net.made(0, 1, 3), 1);
        ChannelNet late = Nets.payments();
        Nets.steps("forward", late, 0, FORWARD, FORWARD, KEPT);
        late.grow(1000);
        Nets.steps("far behind both deadlines", late, 0, KEPT, DONE);
        Nets.payment("left", late, 0, DONE, KEPT, 2, 0);
    }

    private static void backDroppedAnyTime() {
        ChannelNet net = Nets.chain(3, 10);
        net.pay(0, 2, 5, net.lock(7), 5);
        Nets.steps("forward", net, 0, FORWARD, FORWARD, DROPPED);
        net.grow(5);
        Nets.steps("at the deadline", net, 0, DROPPED);
        net.grow(20);
        Nets.steps("behind it", net, 0, DONE);
        Nets.payment("dropped", net, 0, DONE, DROPPED, 2, 2);
        Check.same("balance", net.state(0, 2, 0), 10);
    }

    private static void learnsWhereKept() {
        ChannelNet net = Nets.payments();
        long lock = net.lock(7);
        Nets.steps("forward", net, 0, FORWARD, FORWARD, KEPT);
        net.publish(1, 1, 1);
        Nets.steps("left", net, 0, KEPT);
        Check.no("the node before does not learn", net.knows(1, lock));
        Nets.steps("all go on", net, 0, DONE);
        Check.same("kept", net.state(0, 2, 1), 15);
        Check.yes("the first node learns", net.knows(0, lock));
        Check.no("the payee there does not", net.knows(1, lock));
    }

    private static void doneInThatStep() {
        ChannelNet net = Nets.chain(2, 10);
        net.pay(0, 1, 1, net.tell(1, 7), 5);
        Nets.steps("kept", net, 0, FORWARD, KEPT, DONE);
        net.pay(0, 1, 1, net.lock(8), 5);
        Nets.steps("dropped", net, 1, FORWARD, DROPPED, DONE);
        net.pay(0, 1, 1, net.lock(7), 5);
        Nets.steps("forward", net, 2, FORWARD, KEPT);
        net.publish(0, 0, 0);
        Nets.steps("left to the ledger", net, 2, DONE);
    }

    private static void doneWithoutPromise() {
        ChannelNet net = Nets.payments();
        net.publish(0, 0, 0);
        Nets.steps("the first one is not OPEN", net, 0, DONE);
        Nets.payment("none was made", net, 0, DONE, DROPPED, 0, 0);
    }
}
