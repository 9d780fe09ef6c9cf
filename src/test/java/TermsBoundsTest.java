/** The boundary cases of 'Terms' but for routes and payments, a test for each sentence that names one. */
public final class TermsBoundsTest {
    private static final int FORWARD = ChannelNet.FORWARD;
    private static final int KEPT = ChannelNet.KEPT;
    private static final int DONE = ChannelNet.DONE;

    public static void main(String[] args) {
        thingsAndNumbers();
        promises();
        ledger();
        calls();
        Check.end();
    }

    private static void thingsAndNumbers() {
        Check.sentence("NODES are 0 .. 5", TermsBoundsTest::nodesFrom0To5);
        Check.sentence("with 1,000,000 COINS each at first", TermsBoundsTest::aMillionCoinsEach);
        Check.sentence("HEIGHT is 0 at first", TermsBoundsTest::height0AtFirst);
        Check.sentence("CHANNELS get numbers 0, 1, .. (8 at most, ever)", TermsBoundsTest::eightChannelsEver);
        Check.sentence("STATES have numbers 0, 1, ..", TermsBoundsTest::statesFrom0);
        Check.sentence("up to 6 PROMISES", TermsBoundsTest::upTo6Promises);
        Check.sentence("numbers by channels (as they were made)", TermsBoundsTest::promiseNumbersByChannels);
        Check.sentence("each change of promises makes the next state", TermsBoundsTest::onlyPromisesMakeStates);
        Check.sentence("states stay known", TermsBoundsTest::statesStayKnown);
    }

    private static void promises() {
        Check.sentence("a node KNOWS a secret that it was told or has seen", TermsBoundsTest::toldOrSeen);
        Check.sentence("all know those that stood on the ledger", TermsBoundsTest::stoodOnTheLedger);
        Check.sentence("24 secrets at most are known", TermsBoundsTest::secretsAreCountedOnce);
        Check.sentence("PROMISED: the payer's balance falls by the amount", TermsBoundsTest::promisedAmounts);
        Check.sentence("KEPT: the payee's balance grows by it", TermsBoundsTest::keptAmounts);
        Check.sentence("DROPPED: the payer's balance grows by it", TermsBoundsTest::droppedAmounts);
    }

    private static void ledger() {
        Check.sentence("the latest one or an older one", TermsBoundsTest::latestOrOlder);
        Check.sentence("as long as HEIGHT is less than 10 above that", TermsBoundsTest::punishedWithin10);
        Check.sentence("if a later state was known", TermsBoundsTest::laterStateKnown);
        Check.sentence("it gets all the coins of the channel, which is CLOSED", TermsBoundsTest::punisherGetsAll);
        Check.sentence("when it may not (or no more), promises may be CLAIMED", TermsBoundsTest::claimedWhenNotPunished);
        Check.sentence("as long as their deadline is above HEIGHT, else TAKEN BACK", TermsBoundsTest::claimedOrTakenBack);
        Check.sentence("from 10 above on the state is SETTLED once", TermsBoundsTest::settledFrom10Once);
        Check.sentence("when it is SETTLED and no promise is left", TermsBoundsTest::closedAtLast);
        Check.sentence("each time HEIGHT grows by 1", TermsBoundsTest::watchedEachTime);
        Check.sentence("punishes what can be, by channels", TermsBoundsTest::watchedByChannels);
    }

    private static void calls() {
        Check.sentence("a call that throws changes nothing", TermsBoundsTest::refusedChangesNothing);
        Check.sentence("at most 512 calls", TermsBoundsTest::all512Calls);
    }

    private static void nodesFrom0To5() {
        ChannelNet net = new ChannelNet();
        Check.same("the first and the last node", net.open(0, 5, 10, 10), 0);
        for (int node = 0; node < 6; node += 5) {
            net.fees(node, 0, 0, 1);
            net.watch(node, false);
            Check.same("tell", net.tell(node, 1), net.lock(1));
            Check.yes("knows", net.knows(node, net.lock(1)));
            Check.same("coins", net.coins(node), 999990);
            Check.same("route", net.route(node, 5 - node, 10), 10);
            Check.same("pay", net.pay(node, 5 - node, 1, 0, 9), node / 5);
            Check.same("promise", net.promise(0, node, 1, 0, 9), node / 5);
        }
        net.publish(0, 5, 0);
        Check.same("punish", net.punish(0), 1000010);
    }

    private static void aMillionCoinsEach() {
        ChannelNet net = new ChannelNet();
        for (int node = 0; node < 6; node++) {
            Check.same("coins", net.coins(node), 1000000);
        }
        for (int node = 0; node < 6; node += 2) {
            int one = node;
            Check.refuses("one more", net, Check.STATE, () -> net.open(one, one + 1, 1000001, 1000000));
            Check.refuses("one more", net, Check.STATE, () -> net.open(one, one + 1, 1000000, 1000001));
            net.open(node, node + 1, 1000000, 1000000);
        }
        Check.same("all coins", net.channel(2, 4), 2000000);
    }

    private static void height0AtFirst() {
        ChannelNet net = Nets.channel();
        Check.same("height", net.height(), 0);
        Check.refuses("a deadline of 0", net, Check.STATE, () -> net.promise(0, 4, 1, 0, 0));
        Check.same("a deadline of 1", net.promise(0, 4, 1, 0, 1), 0);
    }

    private static void eightChannelsEver() {
        ChannelNet net = new ChannelNet();
        for (int number = 0; number < 8; number++) {
            Check.same("number", net.open(0, 1, 1, 1), number);
            net.close(number);
        }
        Check.refuses("a ninth, all are CLOSED", net, Check.STATE, () -> net.open(0, 1, 1, 1));
    }

    private static void statesFrom0() {
        ChannelNet net = Nets.channel();
        Check.same("the first one", net.channel(0, 1), 0);
        Check.same("its balance", net.state(0, 0, 0), 1000);
        net.promise(0, 4, 1, 0, 9);
        Check.same("the next one", net.channel(0, 1), 1);
        Nets.fillStates(net, 0, 4, 63);
        Check.same("the 64th", net.channel(0, 1), 63);
    }

    private static void upTo6Promises() {
        ChannelNet net = Nets.channel();
        for (int i = 0; i < 6; i++) {
            net.promise(0, i < 3 ? 4 : 2, 1, 0, 9);
        }
        Check.same("6", net.state(0, 6, 2), 6);
        Check.refuses("a seventh", net, Check.STATE, () -> net.promise(0, 4, 1, 0, 9));
        net.open(4, 2, 1, 1);
        Check.same("another channel has 6 of its own", net.promise(1, 4, 1, 0, 9), 0);
    }

    private static void promiseNumbersByChannels() {
        ChannelNet net = Nets.chain(3, 10);
        Check.same("channel 0", net.promise(0, 0, 1, 0, 9), 0);
        Check.same("channel 1", net.promise(1, 1, 2, 0, 9), 0);
        net.drop(0, 0);
        Check.same("channel 0", net.promise(0, 1, 3, 0, 9), 1);
        net.pay(0, 1, 4, 0, 9);
        net.step(0);
        Check.same("a payment's promise has the next one", net.made(0, 2, 1), 4);
    }

    private static void onlyPromisesMakeStates() {
        ChannelNet net = Nets.channel();
        net.promise(0, 4, 1, 0, 9);
        Check.same("promised", net.channel(0, 1), 1);
        net.promise(0, 4, 1, 0, 9);
        net.keep(0, 0, 0);
        Check.same("kept", net.channel(0, 1), 3);
        net.drop(0, 1);
        Check.same("dropped", net.channel(0, 1), 4);
        net.promise(0, 4, 1, 0, 9);
        net.publish(0, 4, 5);
        net.claim(0, 2, 0);
        net.grow(10);
        net.settle(0);
        Check.same("what the ledger does makes none", net.channel(0, 1), 5);
        Check.same("nor does it change one", net.state(0, 5, 2), 1);
    }

    private static void statesStayKnown() {
        ChannelNet net = Nets.promises();
        net.keep(0, 0, 8);
        net.drop(0, 1);
        net.close(0);
        int[][] want = {{1000, 500, 0, 0}, {700, 500, 1, 300}, {700, 400, 2, 400}, {700, 700, 1, 100}, {700, 800, 0, 0}};
        for (int state = 0; state < want.length; state++) {
            for (int what = 0; what < 4; what++) {
                Check.same("state " + state + ", " + what, net.state(0, state, what), want[state][what]);
            }
        }
    }

    private static void toldOrSeen() {
        ChannelNet net = Nets.chain(4, 10);
        long lock = net.tell(3, 7);
        net.pay(0, 3, 1, lock, 9);
        Nets.steps("forward", net, 0, FORWARD, FORWARD, FORWARD, KEPT);
        net.step(0);
        for (int node = 0; node < 6; node++) {
            Check.yes(node + " knows or not", net.knows(node, lock) == (node == 3 || node == 2));
        }
    }

    private static void stoodOnTheLedger() {
        ChannelNet net = Nets.promises();
        net.publish(0, 4, 2);
        Check.no("a lock on the ledger is no secret", net.knows(4, net.lock(8)));
        net.claim(0, 0, 8);
        for (int node = 0; node < 6; node++) {
            Check.yes(node + " knows it", net.knows(node, net.lock(8)));
        }
    }

    private static void secretsAreCountedOnce() {
        ChannelNet net = Nets.promises();
        for (int secret = 0; secret < 24; secret++) {
            for (int node = 0; node < 6; node++) {
                net.tell(node, 11 + secret);
            }
        }
        Check.refuses("by tell()", net, Check.STATE, () -> net.tell(0, 8));
        Check.refuses("by keep()", net, Check.STATE, () -> net.keep(0, 0, 8));
        net.publish(0, 4, 2);
        Check.refuses("by claim()", net, Check.STATE, () -> net.claim(0, 0, 8));
        Check.yes("all are known", net.knows(5, net.lock(34)));
    }

    private static void promisedAmounts() {
        ChannelNet net = Nets.channel();
        net.promise(0, 4, 1, 0, 9);
        Check.same("1", net.state(0, 1, 0), 999);
        net.promise(0, 4, 999, 0, 9);
        Check.same("all", net.state(0, 2, 0), 0);
        Check.same("the payee's", net.state(0, 2, 1), 500);
    }

    private static void keptAmounts() {
        ChannelNet net = Nets.channel();
        net.promise(0, 4, 1000, net.lock(8), 9);
        net.keep(0, 0, 8);
        Check.same("the payee's", net.state(0, 2, 1), 1500);
        Check.same("the payer's", net.state(0, 2, 0), 0);
        Check.same("the promise goes", net.state(0, 2, 2), 0);
        Check.yes("the payer KNOWS the secret", net.knows(4, net.lock(8)));
    }

    private static void droppedAmounts() {
        ChannelNet net = Nets.channel();
        net.promise(0, 2, 500, net.lock(8), 9);
        net.drop(0, 0);
        Check.same("the payer's", net.state(0, 2, 1), 500);
        Check.same("the payee's", net.state(0, 2, 0), 1000);
        Check.same("the promise goes", net.state(0, 2, 2), 0);
        Check.no("nobody learns", net.knows(2, net.lock(8)) || net.knows(4, net.lock(8)));
    }

    private static void latestOrOlder() {
        for (int state = 0; state <= 2; state++) {
            ChannelNet net = Nets.promises();
            net.publish(0, 4, state);
            Check.same("published", net.channel(0, 2), state);
        }
        ChannelNet net = Nets.promises();
        Check.refuses("a later one", net, Check.INDEX, () -> net.publish(0, 4, 3));
    }

    private static void punishedWithin10() {
        for (int above = 0; above < 10; above++) {
            ChannelNet net = Nets.promises();
            net.grow(2);
            net.publish(0, 4, 1);
            net.grow(above);
            Check.same(above + " above", net.punish(0), 1001000);
        }
        ChannelNet net = Nets.promises();
        net.grow(2);
        net.publish(0, 4, 1);
        net.grow(10);
        Check.refuses("10 above", net, Check.STATE, () -> net.punish(0));
    }

    private static void laterStateKnown() {
        ChannelNet net = Nets.promises();
        net.drop(0, 0);
        net.drop(0, 1);
        net.publish(0, 4, 4);
        Check.refuses("the latest one", net, Check.STATE, () -> net.punish(0));
        ChannelNet alike = Nets.promises();
        alike.drop(0, 0);
        alike.drop(0, 1);
        alike.publish(0, 4, 0);
        Check.same("an older one with the same balances", alike.punish(0), 1001000);
    }

    private static void punisherGetsAll() {
        ChannelNet net = Nets.promises();
        net.publish(0, 2, 1);
        Check.same("balances and promises", net.punish(0), 1000500);
        Check.same("nothing is left", net.channel(0, 4), 0);
        Check.same("CLOSED", net.channel(0, 0), ChannelNet.CLOSED);
        Check.same("the publisher gets nothing", net.coins(2), 999500);
    }

    private static void claimedWhenNotPunished() {
        ChannelNet net = Nets.promises();
        net.publish(0, 4, 2);
        Check.same("it may not", net.claim(0, 0, 8), 999800);
        ChannelNet old = Nets.promises();
        old.publish(0, 4, 1);
        old.grow(9);
        Check.refuses("it may", old, Check.STATE, () -> old.claim(0, 0, 8));
        old.grow(1);
        Check.same("no more", old.claim(0, 0, 8), 999800);
    }

    private static void claimedOrTakenBack() {
        ChannelNet net = Nets.promises();
        net.publish(0, 4, 2);
        net.grow(4);
        Check.refuses("one below, taken back", net, Check.STATE, () -> net.takeBack(0, 1));
        net.grow(1);
        Check.refuses("at the deadline, claimed", net, Check.STATE, () -> net.claim(0, 1, 9));
        Check.same("at the deadline, taken back", net.takeBack(0, 1), 999600);
        net.grow(9);
        Check.same("one below, claimed", net.claim(0, 0, 8), 999900);
    }

    private static void settledFrom10Once() {
        ChannelNet net = Nets.promises();
        net.publish(0, 4, 2);
        net.grow(9);
        Check.refuses("9 above", net, Check.STATE, () -> net.settle(0));
        net.grow(1);
        net.settle(0);
        Check.same("the first node's balance", net.coins(4), 999700);
        Check.same("the second node's balance", net.coins(2), 999900);
        Check.refuses("twice", net, Check.STATE, () -> net.settle(0));
        ChannelNet old = Nets.promises();
        old.publish(0, 4, 0);
        old.grow(11);
        old.settle(0);
        Check.same("the published one's balance", old.coins(4), 1000000);
    }

    private static void closedAtLast() {
        ChannelNet byClaim = Nets.promises();
        byClaim.publish(0, 4, 2);
        byClaim.grow(10);
        byClaim.settle(0);
        byClaim.takeBack(0, 1);
        Check.same("one is left", byClaim.channel(0, 0), ChannelNet.PUBLISHED);
        byClaim.claim(0, 0, 8);
        Check.same("the last one is claimed", byClaim.channel(0, 0), ChannelNet.CLOSED);
        ChannelNet byTakeBack = Nets.promises();
        byTakeBack.publish(0, 4, 2);
        byTakeBack.grow(15);
        byTakeBack.settle(0);
        byTakeBack.takeBack(0, 0);
        byTakeBack.takeBack(0, 1);
        Check.same("the last one is taken back", byTakeBack.channel(0, 0), ChannelNet.CLOSED);
        ChannelNet bySettle = Nets.promises();
        bySettle.publish(0, 4, 2);
        bySettle.claim(0, 0, 8);
        bySettle.claim(0, 1, 9);
        Check.same("none is left, but it is not settled", bySettle.channel(0, 0), ChannelNet.PUBLISHED);
        bySettle.grow(10);
        Check.same("settled at last", bySettle.settle(0), ChannelNet.CLOSED);
    }

    private static void watchedEachTime() {
        ChannelNet net = Nets.promises();
        net.publish(0, 4, 1);
        net.grow(8);
        net.watch(2, true);
        Check.same("no growth", net.grow(0), 0);
        Check.same("at 9 above", net.grow(1), 1);
        ChannelNet late = Nets.promises();
        late.publish(0, 4, 1);
        late.grow(9);
        late.watch(2, true);
        Check.same("at 10 above", late.grow(1), 0);
        ChannelNet latest = Nets.promises();
        latest.watch(2, true);
        latest.publish(0, 4, 2);
        Check.same("what can't be", latest.grow(20), 0);
    }

    private static void watchedByChannels() {
        ChannelNet net = new ChannelNet();
        for (int channel = 0; channel < 3; channel++) {
            net.open(channel, channel + 1, 100, 10);
            net.promise(channel, channel, 1, 0, 9);
            net.publish(channel, channel, 0);
        }
        net.watch(1, true);
        net.watch(3, true);
        Check.same("two watch", net.grow(1), 2);
        Check.same("the first one", net.coins(1), 1000000 - 10 - 100 + 110);
        Check.same("the one that does not watch", net.channel(1, 0), ChannelNet.PUBLISHED);
        Check.same("the last one", net.coins(3), 1000100);
        net.watch(2, true);
        Check.same("the third one", net.grow(1), 1);
    }

    private static void refusedChangesNothing() {
        ChannelNet net = Nets.payments();
        net.step(0);
        net.fees(1, 1, 0, 2);
        net.watch(1, true);
        Nets.fillSecrets(net, 23);
        Check.refuses("open, the second node", net, Check.STATE, () -> net.open(0, 1, 5, 1000000));
        Check.refuses("fees", net, Check.ARGUMENT, () -> net.fees(1, 9, 9, 0));
        Check.refuses("tell", net, Check.STATE, () -> net.tell(1, 8));
        Check.refuses("promise", net, Check.STATE, () -> net.promise(0, 0, 6, 0, 9));
        Check.refuses("keep", net, Check.ARGUMENT, () -> net.keep(0, 0, 8));
        Check.refuses("drop", net, Check.INDEX, () -> net.drop(0, 1));
        Check.refuses("close", net, Check.STATE, () -> net.close(0));
        Check.refuses("route", net, Check.ARGUMENT, () -> net.route(0, 1, 0));
        Check.refuses("hop", net, Check.INDEX, () -> net.hop(2));
        Check.refuses("pay", net, Check.ARGUMENT, () -> net.pay(0, 1, 1, 0, -1));
        Check.refuses("step", net, Check.INDEX, () -> net.step(2));
        Check.refuses("publish", net, Check.INDEX, () -> net.publish(0, 0, 2));
        Check.refuses("punish", net, Check.STATE, () -> net.punish(0));
        Check.refuses("claim", net, Check.STATE, () -> net.claim(0, 0, 7));
        Check.refuses("takeBack", net, Check.STATE, () -> net.takeBack(0, 0));
        Check.refuses("settle", net, Check.STATE, () -> net.settle(0));
        Check.refuses("watch", net, Check.INDEX, () -> net.watch(6, false));
        Check.refuses("grow", net, Check.ARGUMENT, () -> net.grow(1001));
        Nets.steps("the payment goes on", net, 0, FORWARD, KEPT, KEPT, DONE);
        Check.same("the fee is as it was", net.route(0, 2, 1), 2);
        net.publish(0, 0, 0);
        Check.same("node 1 watches still", net.grow(1), 1);
    }

    private static void all512Calls() {
        ChannelNet net = new ChannelNet();
        net.open(0, 1, 10, 10);
        for (int call = 2; call <= 510; call++) {
            net.grow(call % 2 * 1000);
        }
        Check.same("the 511th", net.height(), 254000);
        Check.same("the 512th", net.promise(0, 0, 10, 0, 254001), 0);
    }
}
