/** The boundary cases of promises 2, 7 to 10, a test for each sentence that names one. */
public final class ChannelsBoundsTest {
    public static void main(String[] args) {
        open();
        promise();
        keep();
        drop();
        close();
        Check.end();
    }

    private static void open() {
        Check.sentence("2: a channel: its number", ChannelsBoundsTest::channelNumbers);
        Check.sentence("2: IndexOutOfBoundsException", ChannelsBoundsTest::openNoNode);
        Check.sentence("2: both nodes are one", ChannelsBoundsTest::bothNodesAreOne);
        Check.sentence("2: a share is below 0", ChannelsBoundsTest::shareBelow0);
        Check.sentence("2: or both are 0", ChannelsBoundsTest::bothShares0);
        Check.sentence("2: there are 8", ChannelsBoundsTest::thereAre8);
        Check.sentence("2: a node has not so many COINS", ChannelsBoundsTest::notSoManyCoins);
        Check.sentence("2: IndexOutOfBoundsException first", ChannelsBoundsTest::openNodeFirst);
        Check.sentence("2: IllegalArgumentException second", ChannelsBoundsTest::openArgumentSecond);
    }

    private static void promise() {
        Check.sentence("7: the promise's number", ChannelsBoundsTest::promiseNumbers);
        Check.sentence("7: IndexOutOfBoundsException", ChannelsBoundsTest::promiseInNoChannel);
        Check.sentence("7: also, when the node is none of the channel's", ChannelsBoundsTest::promiseByNoneOfIts);
        Check.sentence("7: amount is below 1", ChannelsBoundsTest::amountBelow1);
        Check.sentence("7: it is not OPEN", ChannelsBoundsTest::promiseNotOpen);
        Check.sentence("7: there are 6 promises", ChannelsBoundsTest::thereAre6Promises);
        Check.sentence("7: or 64 states", ChannelsBoundsTest::promiseWith64States);
        Check.sentence("7: the balance is less", ChannelsBoundsTest::balanceIsLess);
        Check.sentence("7: the deadline not above HEIGHT", ChannelsBoundsTest::promiseTooLate);
        Check.sentence("7: IndexOutOfBoundsException first", ChannelsBoundsTest::promiseIndexFirst);
        Check.sentence("7: IllegalArgumentException second", ChannelsBoundsTest::promiseArgumentSecond);
    }

    private static void keep() {
        Check.sentence("8: a promise of the latest state", ChannelsBoundsTest::keepOfLatestState);
        Check.sentence("8: the latest state's number", ChannelsBoundsTest::keepAnswersLatest);
        Check.sentence("8: IndexOutOfBoundsException", ChannelsBoundsTest::keepNoSuch);
        Check.sentence("8: it is not the lock's", ChannelsBoundsTest::keepWrongSecret);
        Check.sentence("8: the channel is not OPEN", ChannelsBoundsTest::keepNotOpen);
        Check.sentence("8: the deadline is not above HEIGHT", ChannelsBoundsTest::keepTooLate);
        Check.sentence("8: there are 64 states", ChannelsBoundsTest::keepWith64States);
        Check.sentence("8: 24 others are known", ChannelsBoundsTest::keepWith24Others);
        Check.sentence("8: the payee KNOWS it, too, then", ChannelsBoundsTest::payeeKnowsToo);
        Check.sentence("8: IndexOutOfBoundsException first", ChannelsBoundsTest::keepIndexFirst);
        Check.sentence("8: IllegalArgumentException second", ChannelsBoundsTest::keepArgumentSecond);
    }

    private static void drop() {
        Check.sentence("9: a promise of the latest state", ChannelsBoundsTest::dropOfLatestState);
        Check.sentence("9: the latest state's number", ChannelsBoundsTest::dropAnswersLatest);
        Check.sentence("9: IndexOutOfBoundsException", ChannelsBoundsTest::dropNoSuch);
        Check.sentence("9: the channel is not OPEN", ChannelsBoundsTest::dropNotOpen);
        Check.sentence("9: there are 64 states", ChannelsBoundsTest::dropWith64States);
        Check.sentence("9: no deadline is named", ChannelsBoundsTest::dropAtAnyHeight);
        Check.sentence("9: IndexOutOfBoundsException first", ChannelsBoundsTest::dropIndexFirst);
    }

    private static void close() {
        Check.sentence("10: which is OPEN", ChannelsBoundsTest::closeNotOpen);
        Check.sentence("10: and has no promises", ChannelsBoundsTest::closeWithPromises);
        Check.sentence("10: both get their balances", ChannelsBoundsTest::closePaysBalances);
        Check.sentence("10: of the latest state", ChannelsBoundsTest::closeWithManyStates);
        Check.sentence("10: IndexOutOfBoundsException", ChannelsBoundsTest::closeNoChannel);
    }

    private static void channelNumbers() {
        ChannelNet net = new ChannelNet();
        for (int number = 0; number < 8; number++) {
            Check.same("number", net.open(5, 0, 1, 1), number);
        }
    }

    private static void openNoNode() {
        ChannelNet net = new ChannelNet();
        Check.refusesEach("first", net, Check.INDEX, Check.outside(0, 5), node -> net.open(node, 0, 1, 1));
        Check.refusesEach("second", net, Check.INDEX, Check.outside(0, 5), node -> net.open(0, node, 1, 1));
    }

    private static void bothNodesAreOne() {
        ChannelNet net = new ChannelNet();
        for (int node = 0; node < 6; node++) {
            int both = node;
            Check.refuses("node " + node, net, Check.ARGUMENT, () -> net.open(both, both, 1, 1));
        }
        Check.same("a channel of both is no reason", net.open(0, 1, 1, 1), 0);
        Check.same("a channel of both is no reason", net.open(1, 0, 1, 1), 1);
    }

    private static void shareBelow0() {
        ChannelNet net = new ChannelNet();
        int[] below = {-1, Integer.MIN_VALUE};
        Check.refusesEach("one", net, Check.ARGUMENT, below, share -> net.open(0, 1, share, 5));
        Check.refusesEach("other", net, Check.ARGUMENT, below, share -> net.open(0, 1, 5, share));
        Check.refusesEach("one, other 0", net, Check.ARGUMENT, below, share -> net.open(0, 1, share, 0));
        Check.refusesEach("other, one 0", net, Check.ARGUMENT, below, share -> net.open(0, 1, 0, share));
        Check.refusesEach("both", net, Check.ARGUMENT, below, share -> net.open(0, 1, share, share));
    }

    private static void bothShares0() {
        ChannelNet net = new ChannelNet();
        Check.refuses("both 0", net, Check.ARGUMENT, () -> net.open(0, 1, 0, 0));
        Check.same("one is 0", net.open(0, 1, 0, 1), 0);
        Check.same("the other one is 0", net.open(0, 1, 1, 0), 1);
    }

    private static void thereAre8() {
        ChannelNet net = new ChannelNet();
        for (int i = 0; i < 7; i++) {
            net.open(0, 1, 1, 1);
        }
        Check.same("the eighth", net.open(2, 3, 1, 1), 7);
        Check.refuses("the ninth", net, Check.STATE, () -> net.open(2, 3, 1, 1));
        Check.refuses("of other nodes", net, Check.STATE, () -> net.open(4, 5, 1, 1));
        net.close(0);
        Check.refuses("one is CLOSED", net, Check.STATE, () -> net.open(2, 3, 1, 1));
    }

    private static void notSoManyCoins() {
        ChannelNet net = new ChannelNet();
        int[] tooMany = {1000001, Integer.MAX_VALUE};
        Check.refusesEach("one", net, Check.STATE, tooMany, share -> net.open(0, 1, share, 0));
        Check.refusesEach("other", net, Check.STATE, tooMany, share -> net.open(0, 1, 0, share));
        Check.refusesEach("both", net, Check.STATE, tooMany, share -> net.open(0, 1, share, share));
        net.open(0, 1, 999999, 1000000);
        Check.same("the last coin", net.open(0, 2, 1, 1000000), 1);
        Check.refuses("none is left", net, Check.STATE, () -> net.open(0, 3, 1, 1));
        Check.refuses("none is left to the second node", net, Check.STATE, () -> net.open(3, 1, 1, 1));
        Check.same("a share of 0 needs none", net.open(0, 3, 0, 1), 2);
    }

    private static void openNodeFirst() {
        ChannelNet net = new ChannelNet();
        Check.refuses("both are one", net, Check.INDEX, () -> net.open(6, 6, 1, 1));
        Check.refuses("share", net, Check.INDEX, () -> net.open(0, 6, -1, 1));
        Check.refuses("shares", net, Check.INDEX, () -> net.open(-1, 0, 0, 0));
        Check.refuses("coins", net, Check.INDEX, () -> net.open(0, 6, 1000001, 1));
        fillChannels(net);
        Check.refuses("there are 8", net, Check.INDEX, () -> net.open(0, -1, 1, 1));
    }

    private static void openArgumentSecond() {
        ChannelNet net = new ChannelNet();
        Check.refuses("coins, share", net, Check.ARGUMENT, () -> net.open(0, 1, 1000001, -1));
        Check.refuses("coins, share", net, Check.ARGUMENT, () -> net.open(0, 1, -1, 1000001));
        Check.refuses("coins, both are one", net, Check.ARGUMENT, () -> net.open(1, 1, 1000001, 1));
        fillChannels(net);
        Check.refuses("there are 8, both are one", net, Check.ARGUMENT, () -> net.open(1, 1, 1, 1));
        Check.refuses("there are 8, share", net, Check.ARGUMENT, () -> net.open(0, 1, 1, -1));
        Check.refuses("there are 8, both 0", net, Check.ARGUMENT, () -> net.open(0, 1, 0, 0));
    }

    private static void fillChannels(ChannelNet net) {
        for (int i = 0; i < 8; i++) {
            net.open(0, 1, 1, 1);
        }
    }

    private static void promiseNumbers() {
        ChannelNet net = Nets.chain(3, 100);
        Check.same("first", net.promise(0, 0, 1, 0, 9), 0);
        Check.same("of the other payer", net.promise(0, 1, 1, 0, 9), 1);
        Check.same("another channel's first", net.promise(1, 1, 1, 0, 9), 0);
        net.drop(0, 1);
        Check.same("a dropped one's number is not given again", net.promise(0, 1, 1, 0, 9), 2);
        net.keep(0, 2, 0);
        Check.same("nor a kept one's", net.promise(0, 1, 1, 0, 9), 3);
        Check.refuses("a refused one", net, Check.STATE, () -> net.promise(0, 1, 101, 0, 9));
        Check.same("it takes no number", net.promise(0, 1, 1, 0, 9), 4);
    }

    private static void promiseInNoChannel() {
        ChannelNet net = Nets.channel();
        Check.refusesEach("channel", net, Check.INDEX, Check.outside(0, 0), c -> net.promise(c, 4, 1, 0, 9));
        ChannelNet none = new ChannelNet();
        Check.refuses("there is none", none, Check.INDEX, () -> none.promise(0, 4, 1, 0, 9));
    }

    private static void promiseByNoneOfIts() {
        ChannelNet net = Nets.channel();
        Check.refusesEach("no node", net, Check.INDEX, Check.outside(0, 5), node -> net.promise(0, node, 1, 0, 9));
        int[] others = {0, 1, 3, 5};
        Check.refusesEach("another node", net, Check.INDEX, others, node -> net.promise(0, node, 1, 0, 9));
        Check.same("the first one", net.promise(0, 4, 1, 0, 9), 0);
        Check.same("the second one", net.promise(0, 2, 1, 0, 9), 1);
    }

    private static void amountBelow1() {
        ChannelNet net = Nets.channel();
        int[] below = {0, -1, Integer.MIN_VALUE};
        Check.refusesEach("amount", net, Check.ARGUMENT, below, amount -> net.promise(0, 4, amount, 0, 9));
        Check.same("1", net.promise(0, 4, 1, 0, 9), 0);
        Check.same("1 less", net.state(0, 1, 0), 999);
    }

    private static void promiseNotOpen() {
        ChannelNet net = Nets.channel();
        net.publish(0, 4, 0);
        Check.refuses("PUBLISHED", net, Check.STATE, () -> net.promise(0, 4, 1, 0, 99));
        net.grow(10);
        net.settle(0);
        Check.refuses("CLOSED", net, Check.STATE, () -> net.promise(0, 4, 1, 0, 99));
        net.open(4, 2, 1, 1);
        net.close(1);
        Check.refuses("CLOSED by close()", net, Check.STATE, () -> net.promise(1, 4, 1, 0, 99));
    }

    private static void thereAre6Promises() {
        ChannelNet net = Nets.channel();
        for (int i = 0; i < 6; i++) {
            Check.same("the " + (i + 1) + "th", net.promise(0, i % 2 == 0 ? 4 : 2, 1, 0, 9), i);
        }
        Check.refuses("the seventh", net, Check.STATE, () -> net.promise(0, 4, 1, 0, 9));
        Check.refuses("the seventh, of the other node", net, Check.STATE, () -> net.promise(0, 2, 1, 0, 9));
        net.drop(0, 5);
        Check.same("one was dropped", net.promise(0, 4, 1, 0, 9), 6);
        Check.refuses("6 again", net, Check.STATE, () -> net.promise(0, 4, 1, 0, 9));
        net.keep(0, 0, 0);
        Check.same("one was kept", net.promise(0, 4, 1, 0, 9), 7);
    }

    private static void promiseWith64States() {
        ChannelNet net = Nets.channel();
        Nets.fillStates(net, 0, 4, 62);
        Check.same("the 64th state", net.promise(0, 4, 1, 0, 9), 31);
        Check.same("its number", net.channel(0, 1), 63);
        Check.refuses("a 65th", net, Check.STATE, () -> net.promise(0, 4, 1, 0, 9));
        net.open(4, 2, 5, 5);
        Check.same("another channel has its own", net.promise(1, 4, 1, 0, 9), 0);
    }

    private static void balanceIsLess() {
        ChannelNet net = Nets.channel();
        Check.refuses("1 less, first node", net, Check.STATE, () -> net.promise(0, 4, 1001, 0, 9));
        Check.refuses("1 less, second node", net, Check.STATE, () -> net.promise(0, 2, 501, 0, 9));
        Check.refuses("far less", net, Check.STATE, () -> net.promise(0, 4, Integer.MAX_VALUE, 0, 9));
        net.promise(0, 4, 1000, 0, 9);
        net.promise(0, 2, 500, 0, 9);
        Check.same("all of it", net.state(0, 2, 0), 0);
        Check.same("all of it", net.state(0, 2, 1), 0);
        Check.refuses("nothing is left", net, Check.STATE, () -> net.promise(0, 4, 1, 0, 9));
        Check.refuses("nothing is left", net, Check.STATE, () -> net.promise(0, 2, 1, 0, 9));
        net.keep(0, 1, 0);
        Check.same("what was kept counts", net.promise(0, 4, 500, 0, 9), 2);
    }

    private static void promiseTooLate() {
        ChannelNet net = Nets.channel();
        net.grow(5);
        int[] late = {5, 4, 0, -1, Integer.MIN_VALUE};
        Check.refusesEach("deadline", net, Check.STATE, late, deadline -> net.promise(0, 4, 1, 0, deadline));
        Check.same("one above", net.promise(0, 4, 1, 0, 6), 0);
        Check.same("far above", net.promise(0, 4, 1, 0, Integer.MAX_VALUE), 1);
        Check.same("it is told", net.made(0, 1, 2), Integer.MAX_VALUE);
    }

    private static void promiseIndexFirst() {
        ChannelNet net = Nets.channel();
        Check.refuses("channel, amount", net, Check.INDEX, () -> net.promise(1, 4, 0, 0, 9));
        Check.refuses("node, amount", net, Check.INDEX, () -> net.promise(0, 0, 0, 0, 9));
        Check.refuses("node, balance", net, Check.INDEX, () -> net.promise(0, 0, 1001, 0, 9));
        Check.refuses("node, deadline", net, Check.INDEX, () -> net.promise(0, 6, 1, 0, 0));
        net.close(0);
        Check.refuses("node, not OPEN", net, Check.INDEX, () -> net.promise(0, 3, 1, 0, 9));
    }

    private static void promiseArgumentSecond() {
        ChannelNet net = Nets.channel();
        Check.refuses("deadline", net, Check.ARGUMENT, () -> net.promise(0, 4, 0, 0, 0));
        for (int i = 0; i < 6; i++) {
            net.promise(0, 2, 1, 0, 9);
        }
        Check.refuses("6 promises", net, Check.ARGUMENT, () -> net.promise(0, 4, 0, 0, 9));
        net.publish(0, 4, 0);
        Check.refuses("not OPEN", net, Check.ARGUMENT, () -> net.promise(0, 4, -1, 0, 9));
        ChannelNet full = Nets.channel();
        Nets.fillStates(full, 0, 4, 63);
        Check.refuses("64 states", full, Check.ARGUMENT, () -> full.promise(0, 4, 0, 0, 9));
    }

    private static void keepOfLatestState() {
        ChannelNet net = Nets.promises();
        net.drop(0, 0);
        Check.refuses("dropped", net, Check.INDEX, () -> net.keep(0, 0, 8));
        net.keep(0, 1, 9);
        Check.refuses("kept", net, Check.INDEX, () -> net.keep(0, 1, 9));
        net.promise(0, 4, 1, net.lock(8), 9);
        Check.refuses("a later one of the same lock", net, Check.INDEX, () -> net.keep(0, 0, 8));
        Check.same("that one itself", net.keep(0, 2, 8), 6);
    }

    private static void keepAnswersLatest() {
        ChannelNet net = Nets.channel();
        Nets.fillStates(net, 0, 4, 60);
        net.promise(0, 4, 1000, net.lock(8), 1);
        net.promise(0, 2, 500, net.lock(8), 1);
        Check.same("all of the payer's balance", net.keep(0, net.channel(0, 5) - 2, 8), 63);
        Check.same("it is the payee's", net.state(0, 63, 1), 1000);
        Check.same("nothing is left", net.state(0, 63, 0), 0);
    }

    private static void keepNoSuch() {
        ChannelNet net = Nets.promises();
        Check.refusesEach("channel", net, Check.INDEX, Check.outside(0, 0), channel -> net.keep(channel, 0, 8));
        Check.refusesEach("promise", net, Check.INDEX, Check.outside(0, 1), promise -> net.keep(0, promise, 8));
        net.open(4, 2, 5, 5);
        Check.refuses("none was made", net, Check.INDEX, () -> net.keep(1, 0, 8));
    }

    private static void keepWrongSecret() {
        ChannelNet net = Nets.promises();
        Check.refuses("another promise's", net, Check.ARGUMENT, () -> net.keep(0, 0, 9));
        Check.refuses("0", net, Check.ARGUMENT, () -> net.keep(0, 0, 0));
        Check.refuses("one bit off", net, Check.ARGUMENT, () -> net.keep(0, 0, 8 + (1L << 32)));
        Check.refuses("the lock itself", net, Check.ARGUMENT, () -> net.keep(0, 0, net.lock(8)));
        net.tell(4, 9);
        Check.refuses("a known one", net, Check.ARGUMENT, () -> net.keep(0, 0, 9));
        net.promise(0, 4, 1, 0, 9);
        Check.same("0 is the secret of lock 0", net.keep(0, 2, 0), 4);
    }

    private static void keepNotOpen() {
        ChannelNet net = Nets.promises();
        net.publish(0, 4, 2);
        Check.refuses("PUBLISHED", net, Check.STATE, () -> net.keep(0, 0, 8));
        ChannelNet punished = Nets.promises();
        punished.publish(0, 4, 1);
        punished.punish(0);
        Check.refuses("CLOSED", punished, Check.STATE, () -> punished.keep(0, 0, 8));
        Check.no("nobody learns", punished.knows(4, punished.lock(8)));
    }

    private static void keepTooLate() {
        ChannelNet net = Nets.promises();
        net.grow(4);
        Check.same("one below the deadline", net.keep(0, 1, 9), 3);
        net.grow(11);
        Check.refuses("at the deadline", net, Check.STATE, () -> net.keep(0, 0, 8));
        net.grow(1);
        Check.refuses("behind it", net, Check.STATE, () -> net.keep(0, 0, 8));
    }

    private static void keepWith64States() {
        ChannelNet net = Nets.promises();
        Nets.fillStates(net, 0, 4, 62);
        Check.same("the 64th state", net.keep(0, 0, 8), 63);
        Check.refuses("a 65th", net, Check.STATE, () -> net.keep(0, 1, 9));
        Check.no("nobody learns", net.knows(2, net.lock(9)));
    }

    private static void keepWith24Others() {
        ChannelNet net = Nets.promises();
        Nets.fillSecrets(net, 23);
        Check.same("the 24th", net.keep(0, 0, 8), 3);
        Check.refuses("24 others", net, Check.STATE, () -> net.keep(0, 1, 9));
        Check.refuses("it is one of the 24 then", net, Check.STATE, () -> net.tell(0, 9));
        net.promise(0, 2, 1, net.lock(8), 9);
        Check.same("one of the 24", net.keep(0, 2, 8), 5);
        net.promise(0, 2, 1, net.lock(11), 9);
        Check.same("one that another node knows", net.keep(0, 3, 11), 7);
        Check.yes("the payer knows it", net.knows(2, net.lock(11)));
    }

    private static void payeeKnowsToo() {
        ChannelNet net = Nets.promises();
        net.keep(0, 0, 8);
        for (int node = 0; node < 6; node++) {
            Check.yes(node + " knows or not", net.knows(node, net.lock(8)) == (node == 4 || node == 2));
            Check.no("the other secret", net.knows(node, net.lock(9)));
        }
    }

    private static void keepIndexFirst() {
        ChannelNet net = Nets.promises();
        Check.refuses("channel, secret", net, Check.INDEX, () -> net.keep(1, 0, 7));
        Check.refuses("promise, secret", net, Check.INDEX, () -> net.keep(0, 2, 7));
        net.drop(0, 0);
        net.grow(20);
        Check.refuses("promise, deadline", net, Check.INDEX, () -> net.keep(0, 0, 8));
        net.publish(0, 4, 1);
        Check.refuses("promise, not OPEN", net, Check.INDEX, () -> net.keep(0, 0, 8));
        Check.refuses("no promise, not OPEN", net, Check.INDEX, () -> net.keep(0, -1, 8));
    }

    private static void keepArgumentSecond() {
        ChannelNet net = Nets.promises();
        net.grow(5);
        Check.refuses("deadline", net, Check.ARGUMENT, () -> net.keep(0, 1, 8));
        Nets.fillSecrets(net, 24);
        Check.refuses("24 others", net, Check.ARGUMENT, () -> net.keep(0, 0, 9));
        Nets.fillStates(net, 0, 4, 63);
        Check.refuses("64 states", net, Check.ARGUMENT, () -> net.keep(0, 0, 9));
        net.publish(0, 4, 63);
        Check.refuses("not OPEN", net, Check.ARGUMENT, () -> net.keep(0, 0, 9));
    }

    private static void dropOfLatestState() {
        ChannelNet net = Nets.promises();
        net.drop(0, 0);
        Check.refuses("dropped", net, Check.INDEX, () -> net.drop(0, 0));
        net.keep(0, 1, 9);
        Check.refuses("kept", net, Check.INDEX, () -> net.drop(0, 1));
    }

    private static void dropAnswersLatest() {
        ChannelNet net = Nets.channel();
        net.promise(0, 2, 500, 0, 9);
        Check.same("all of the payer's balance", net.state(0, 1, 1), 0);
        Check.same("latest state", net.drop(0, 0), 2);
        Check.same("it is there again", net.state(0, 2, 1), 500);
        Check.same("nothing for the payee", net.state(0, 2, 0), 1000);
    }

    private static void dropNoSuch() {
        ChannelNet net = Nets.promises();
        Check.refusesEach("channel", net, Check.INDEX, Check.outside(0, 0), channel -> net.drop(channel, 0));
        Check.refusesEach("promise", net, Check.INDEX, Check.outside(0, 1), promise -> net.drop(0, promise));
        net.open(4, 2, 5, 5);
        Check.refuses("none was made", net, Check.INDEX, () -> net.drop(1, 0));
    }

    private static void dropNotOpen() {
        ChannelNet net = Nets.promises();
        net.publish(0, 4, 1);
        Check.refuses("PUBLISHED", net, Check.STATE, () -> net.drop(0, 0));
        Check.refuses("PUBLISHED without it", net, Check.STATE, () -> net.drop(0, 1));
        net.punish(0);
        Check.refuses("CLOSED", net, Check.STATE, () -> net.drop(0, 0));
    }

    private static void dropWith64States() {
        ChannelNet net = Nets.promises();
        Nets.fillStates(net, 0, 4, 62);
        Check.same("the 64th state", net.drop(0, 0), 63);
        Check.refuses("a 65th", net, Check.STATE, () -> net.drop(0, 1));
    }

    private static void dropAtAnyHeight() {
        ChannelNet net = Nets.promises();
        net.grow(14);
        Check.same("one below the deadline", net.drop(0, 0), 3);
        Check.same("behind the deadline", net.drop(0, 1), 4);
        net.promise(0, 4, 1, 0, 15);
        net.grow(1);
        Check.same("at the deadline", net.drop(0, 2), 6);
    }

    private static void dropIndexFirst() {
        ChannelNet net = Nets.promises();
        net.drop(0, 0);
        Nets.fillStates(net, 0, 4, 63);
        Check.refuses("gone, 64 states", net, Check.INDEX, () -> net.drop(0, 0));
        net.publish(0, 4, 1);
        Check.refuses("gone, not OPEN", net, Check.INDEX, () -> net.drop(0, 0));
        Check.refuses("no promise, not OPEN", net, Check.INDEX, () -> net.drop(0, 64));
        Check.refuses("no channel", net, Check.INDEX, () -> net.drop(1, 0));
    }

    private static void closeNotOpen() {
        ChannelNet net = Nets.channel();
        net.publish(0, 4, 0);
        Check.refuses("PUBLISHED", net, Check.STATE, () -> net.close(0));
        net.grow(10);
        Check.refuses("PUBLISHED, 10 above", net, Check.STATE, () -> net.close(0));
        net.settle(0);
        Check.refuses("CLOSED", net, Check.STATE, () -> net.close(0));
        net.open(4, 2, 1, 1);
        net.close(1);
        Check.refuses("CLOSED by close()", net, Check.STATE, () -> net.close(1));
    }

    private static void closeWithPromises() {
        ChannelNet net = Nets.promises();
        Check.refuses("2 promises", net, Check.STATE, () -> net.close(0));
        net.drop(0, 0);
        Check.refuses("1 promise", net, Check.STATE, () -> net.close(0));
        net.grow(20);
        Check.refuses("its deadline is over", net, Check.STATE, () -> net.close(0));
        net.drop(0, 1);
        net.close(0);
        Check.same("none is left", net.channel(0, 0), ChannelNet.CLOSED);
    }

    private static void closePaysBalances() {
        ChannelNet net = Nets.channel();
        net.promise(0, 4, 1000, 0, 9);
        net.keep(0, 0, 0);
        net.close(0);
        Check.same("a balance of 0", net.coins(4), 999000);
        Check.same("all of it", net.coins(2), 1001000);
        Check.same("the channel has nothing", net.channel(0, 4), 0);
        Check.same("no state is made", net.channel(0, 1), 2);
    }

    /** With 64 states there is always a promise, as each one makes a state when it comes and when it goes. */
    private static void closeWithManyStates() {
        ChannelNet net = Nets.channel();
        Nets.fillStates(net, 0, 4, 62);
        ChannelNet full = Nets.channel();
        Nets.fillStates(full, 0, 4, 63);
        Check.refuses("64 states", full, Check.STATE, () -> full.close(0));
        net.close(0);
        Check.same("63 states", net.channel(0, 0), ChannelNet.CLOSED);
        Check.same("coins", net.coins(4), 1000000);
    }

    private static void closeNoChannel() {
        ChannelNet net = Nets.channel();
        Check.refusesEach("channel", net, Check.INDEX, Check.outside(0, 0), channel -> net.close(channel));
    }
}
