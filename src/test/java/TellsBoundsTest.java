/** The boundary cases of promises 25 to 28, which tell of channels, a test for each sentence that names one. */
public final class TellsBoundsTest {
    public static void main(String[] args) {
        Check.sentence("25: how many channels there are", TellsBoundsTest::countsFrom0To8);
        channel();
        state();
        made();
        Check.end();
    }

    private static void channel() {
        Check.sentence("26: what it is", TellsBoundsTest::whatAChannelIs);
        Check.sentence("26: the number of its latest state", TellsBoundsTest::latestFrom0To63);
        Check.sentence("26: of the published one, NONE if none ever was", TellsBoundsTest::noneWasPublished);
        Check.sentence("26: it stays when the channel is CLOSED", TellsBoundsTest::publishedStays);
        Check.sentence("26: the height of that, NONE", TellsBoundsTest::heightOfPublished);
        Check.sentence("26: coins that it still holds", TellsBoundsTest::stillHolds);
        Check.sentence("26: how many promises it made", TellsBoundsTest::goneOnesCount);
        Check.sentence("26: IndexOutOfBoundsException", TellsBoundsTest::noSuchChannel);
        Check.sentence("26: another what", TellsBoundsTest::channelAnotherWhat);
        Check.sentence("26: IndexOutOfBoundsException first", TellsBoundsTest::channelIndexFirst);
    }

    private static void state() {
        Check.sentence("27: the balances of both nodes", TellsBoundsTest::balancesFrom0);
        Check.sentence("27: how many promises", TellsBoundsTest::statePromisesFrom0To6);
        Check.sentence("27: their amounts together", TellsBoundsTest::stateAmountsTogether);
        Check.sentence("27: of a state, also an old one", TellsBoundsTest::oldStates);
        Check.sentence("27: IndexOutOfBoundsException", TellsBoundsTest::noSuchState);
        Check.sentence("27: another what", TellsBoundsTest::stateAnotherWhat);
        Check.sentence("27: IndexOutOfBoundsException first", TellsBoundsTest::stateIndexFirst);
    }

    private static void made() {
        Check.sentence("28: its payer's node, amount, deadline", TellsBoundsTest::madeEdges);
        Check.sentence("28: whether it is in the latest state", TellsBoundsTest::inTheLatestState);
        Check.sentence("28: of a promise that a channel made, also one that went", TellsBoundsTest::goneStillTold);
        Check.sentence("28: IndexOutOfBoundsException", TellsBoundsTest::noSuchPromise);
        Check.sentence("28: another what", TellsBoundsTest::madeAnotherWhat);
        Check.sentence("28: IndexOutOfBoundsException first", TellsBoundsTest::madeIndexFirst);
    }

    private static void countsFrom0To8() {
        ChannelNet net = new ChannelNet();
        Check.same("at first", net.channels(), 0);
        Check.refuses("a refused one", net, Check.ARGUMENT, () -> net.open(0, 0, 1, 1));
        for (int count = 1; count <= 8; count++) {
            net.open(0, 1, 1, 1);
            Check.same("channels", net.channels(), count);
        }
        Check.refuses("the ninth", net, Check.STATE, () -> net.open(0, 1, 1, 1));
        net.close(3);
        Check.same("a CLOSED one counts", net.channels(), 8);
    }

    private static void whatAChannelIs() {
        ChannelNet net = Nets.promises();
        Check.same("OPEN", net.channel(0, 0), ChannelNet.OPEN);
        net.publish(0, 4, 2);
        Check.same("PUBLISHED", net.channel(0, 0), ChannelNet.PUBLISHED);
        net.grow(10);
        net.settle(0);
        Check.same("PUBLISHED, while promises are left", net.channel(0, 0), ChannelNet.PUBLISHED);
        net.takeBack(0, 1);
        net.claim(0, 0, 8);
        Check.same("CLOSED", net.channel(0, 0), ChannelNet.CLOSED);
    }

    private static void latestFrom0To63() {
        ChannelNet net = Nets.channel();
        Check.same("at first", net.channel(0, 1), 0);
        net.promise(0, 4, 1, 0, 9);
        Check.same("then", net.channel(0, 1), 1);
        Nets.fillStates(net, 0, 4, 63);
        Check.same("at last", net.channel(0, 1), 63);
        net.publish(0, 4, 0);
        Check.same("an old one is published", net.channel(0, 1), 63);
        net.punish(0);
        Check.same("CLOSED", net.channel(0, 1), 63);
    }

    private static void noneWasPublished() {
        ChannelNet net = Nets.channel();
        Check.same("OPEN", net.channel(0, 2), ChannelNet.NONE);
        net.close(0);
        Check.same("CLOSED", net.channel(0, 2), ChannelNet.NONE);
        net.open(4, 2, 5, 5);
        net.publish(1, 2, 0);
        Check.same("state 0", net.channel(1, 2), 0);
        net.open(4, 2, 5, 5);
        Nets.fillStates(net, 2, 4, 63);
        net.publish(2, 2, 63);
        Check.same("state 63", net.channel(2, 2), 63);
    }

    private static void publishedStays() {
        ChannelNet net = Nets.promises();
        net.publish(0, 4, 1);
        net.punish(0);
        Check.same("punished", net.channel(0, 2), 1);
        net.open(4, 2, 5, 5);
        net.publish(1, 4, 0);
        net.grow(10);
        net.settle(1);
        Check.same("settled", net.channel(1, 2), 0);
        Check.same("its height stays, too", net.channel(1, 3), 0);
    }

    private static void heightOfPublished() {
        ChannelNet net = Nets.channel();
        net.grow(3);
        Check.same("OPEN", net.channel(0, 3), ChannelNet.NONE);
        net.open(4, 2, 5, 5);
        net.close(1);
        Check.same("CLOSED", net.channel(1, 3), ChannelNet.NONE);
        net.publish(0, 2, 0);
        net.grow(20);
        Check.same("as it was then", net.channel(0, 3), 3);
        ChannelNet atOnce = Nets.channel();
        atOnce.publish(0, 2, 0);
        Check.same("height 0", atOnce.channel(0, 3), 0);
    }

    private static void stillHolds() {
        ChannelNet net = Nets.promises();
        Check.same("promised ones, too", net.channel(0, 4), 1500);
        net.publish(0, 4, 2);
        Check.same("published", net.channel(0, 4), 1500);
        net.claim(0, 0, 8);
        Check.same("claimed", net.channel(0, 4), 1200);
        net.grow(5);
        net.takeBack(0, 1);
        Check.same("taken back", net.channel(0, 4), 1100);
        net.grow(5);
        net.settle(0);
        Check.same("settled", net.channel(0, 4), 0);
        net.open(0, 1, 1000000, 1000000);
        Check.same("all coins of both", net.channel(1, 4), 2000000);
        net.close(1);
        Check.same("closed", net.channel(1, 4), 0);
    }

    private static void goneOnesCount() {
        ChannelNet net = Nets.channel();
        Check.same("at first", net.channel(0, 5), 0);
        net.promise(0, 4, 1, 0, 9);
        net.drop(0, 0);
        Check.same("one that went counts", net.channel(0, 5), 1);
        Nets.fillStates(net, 0, 4, 63);
        Check.same("in 64 states", net.channel(0, 5), 32);
    }

    private static void noSuchChannel() {
        ChannelNet net = new ChannelNet();
        Check.refusesEach("none, channel", net, Check.INDEX, Check.outside(0, -1), c -> net.channel(c, 0));
        net.open(0, 1, 1, 1);
        Check.refusesEach("one, channel", net, Check.INDEX, Check.outside(0, 0), c -> net.channel(c, 0));
        for (int i = 1; i < 8; i++) {
            net.open(0, 1, 1, 1);
        }
        Check.refusesEach("8, channel", net, Check.INDEX, Check.outside(0, 7), c -> net.channel(c, 0));
        Check.same("the last one", net.channel(7, 0), ChannelNet.OPEN);
    }

    private static void channelAnotherWhat() {
        ChannelNet net = Nets.promises();
        Check.refusesEach("what", net, Check.ARGUMENT, Check.outside(0, 5), what -> net.channel(0, what));
    }

    private static void channelIndexFirst() {
        ChannelNet net = Nets.promises();
        Check.refuses("both", net, Check.INDEX, () -> net.channel(1, 6));
        Check.refuses("both", net, Check.INDEX, () -> net.channel(-1, -1));
    }

    private static void balancesFrom0() {
        ChannelNet net = new ChannelNet();
        net.open(0, 1, 0, 1000000);
        Check.same("first", net.state(0, 0, 0), 0);
        Check.same("second", net.state(0, 0, 1), 1000000);
        net.promise(0, 1, 1000000, 0, 9);
        Check.same("all is promised", net.state(0, 1, 1), 0);
        net.keep(0, 0, 0);
        Check.same("first", net.state(0, 2, 0), 1000000);
        Check.same("second", net.state(0, 2, 1), 0);
    }

    private static void statePromisesFrom0To6() {
        ChannelNet net = Nets.channel();
        for (int count = 0; count < 6; count++) {
            Check.same("promises", net.state(0, count, 2), count);
            net.promise(0, 4, 1, 0, 9);
        }
        Check.same("6", net.state(0, 6, 2), 6);
        net.drop(0, 0);
        Check.same("one went", net.state(0, 7, 2), 5);
        Check.same("state 6 still has it", net.state(0, 6, 2), 6);
    }

    private static void stateAmountsTogether() {
        ChannelNet net = new ChannelNet();
        net.open(0, 1, 1000000, 1000000);
        Check.same("none", net.state(0, 0, 3), 0);
        net.promise(0, 0, 1000000, 0, 9);
        net.promise(0, 1, 1000000, 0, 9);
        Check.same("all coins of both", net.state(0, 2, 3), 2000000);
        net.keep(0, 0, 0);
        Check.same("one went", net.state(0, 3, 3), 1000000);
    }

    private static void oldStates() {
        ChannelNet net = Nets.channel();
        net.promise(0, 4, 300, 0, 9);
        net.keep(0, 0, 0);
        Nets.fillStates(net, 0, 2, 63);
        net.publish(0, 4, 1);
        net.punish(0);
        int[][] want = {{1000, 500, 0, 0}, {700, 500, 1, 300}, {700, 800, 0, 0}, {700, 799, 1, 1}};
        for (int state = 0; state < want.length; state++) {
            for (int what = 0; what < 4; what++) {
                Check.same("state " + state + ", " + what, net.state(0, state, what), want[state][what]);
            }
        }
        Check.same("the last one", net.state(0, 63, 1), 799);
    }

    private static void noSuchState() {
        ChannelNet net = Nets.promises();
        Check.refusesEach("channel", net, Check.INDEX, Check.outside(0, 0), channel -> net.state(channel, 0, 0));
        Check.refusesEach("state", net, Check.INDEX, Check.outside(0, 2), state -> net.state(0, state, 0));
        net.publish(0, 4, 1);
        Check.same("a later one than the published one", net.state(0, 2, 2), 2);
        net.open(4, 2, 5, 5);
        Nets.fillStates(net, 1, 4, 63);
        Check.refusesEach("64, state", net, Check.INDEX, Check.outside(0, 63), state -> net.state(1, state, 0));
    }

    private static void stateAnotherWhat() {
        ChannelNet net = Nets.promises();
        Check.refusesEach("what", net, Check.ARGUMENT, Check.outside(0, 3), what -> net.state(0, 2, what));
    }

    private static void stateIndexFirst() {
        ChannelNet net = Nets.promises();
        Check.refuses("channel", net, Check.INDEX, () -> net.state(1, 0, 4));
        Check.refuses("state", net, Check.INDEX, () -> net.state(0, 3, 4));
        Check.refuses("state", net, Check.INDEX, () -> net.state(0, -1, -1));
    }

    private static void madeEdges() {
        ChannelNet net = new ChannelNet();
        net.open(5, 0, 1000000, 1000000);
        net.promise(0, 5, 1, 0, 1);
        net.promise(0, 0, 1000000, 0, Integer.MAX_VALUE);
        int[][] want = {{5, 1, 1, 1}, {0, 1000000, Integer.MAX_VALUE, 1}};
        for (int promise = 0; promise < 2; promise++) {
            for (int what = 0; what < 4; what++) {
                Check.same("promise " + promise + ", " + what, net.made(0, promise, what), want[promise][what]);
            }
        }
    }

    private static void inTheLatestState() {
        ChannelNet net = Nets.promises();
        Check.same("it is", net.made(0, 0, 3), 1);
        net.drop(0, 0);
        Check.same("dropped", net.made(0, 0, 3), 0);
        Check.same("the other one is still", net.made(0, 1, 3), 1);
        net.keep(0, 1, 9);
        Check.same("kept", net.made(0, 1, 3), 0);
        ChannelNet ledger = Nets.promises();
        ledger.publish(0, 4, 2);
        ledger.claim(0, 0, 8);
        Check.same("a claim makes no state", ledger.made(0, 0, 3), 1);
        ChannelNet old = Nets.promises();
        old.publish(0, 4, 0);
        old.punish(0);
        Check.same("the published one is not the latest", old.made(0, 0, 3), 1);
    }

    private static void goneStillTold() {
        ChannelNet net = Nets.promises();
        net.drop(0, 0);
        net.keep(0, 1, 9);
        net.close(0);
        Check.same("payer", net.made(0, 0, 0), 4);
        Check.same("amount", net.made(0, 0, 1), 300);
        Check.same("deadline", net.made(0, 0, 2), 15);
        Check.same("payer", net.made(0, 1, 0), 2);
        Check.same("amount", net.made(0, 1, 1), 100);
        Check.same("deadline", net.made(0, 1, 2), 5);
    }

    private static void noSuchPromise() {
        ChannelNet net = Nets.channel();
        Check.refuses("none was made", net, Check.INDEX, () -> net.made(0, 0, 0));
        net.promise(0, 4, 1, 0, 9);
        Check.refusesEach("channel", net, Check.INDEX, Check.outside(0, 0), channel -> net.made(channel, 0, 0));
        Check.refusesEach("promise", net, Check.INDEX, Check.outside(0, 0), promise -> net.made(0, promise, 0));
        net.open(4, 2, 5, 5);
        Check.refuses("another channel's", net, Check.INDEX, () -> net.made(1, 0, 0));
    }

    private static void madeAnotherWhat() {
        ChannelNet net = Nets.promises();
        Check.refusesEach("what", net, Check.ARGUMENT, Check.outside(0, 3), what -> net.made(0, 1, what));
    }

    private static void madeIndexFirst() {
        ChannelNet net = Nets.promises();
        Check.refuses("channel", net, Check.INDEX, () -> net.made(1, 0, 4));
        Check.refuses("promise", net, Check.INDEX, () -> net.made(0, 2, 4));
        Check.refuses("promise", net, Check.INDEX, () -> net.made(0, -1, -1));
    }
}
