/** The boundary cases of promises 16 to 20, 22, a test for each sentence that names one. */
public final class LedgerBoundsTest {
    public static void main(String[] args) {
        publish();
        punish();
        claim();
        takeBack();
        settle();
        grow();
        Check.end();
    }

    private static void publish() {
        Check.sentence("16: a node publishes a state", LedgerBoundsTest::publishesFirstAndLast);
        Check.sentence("16: IndexOutOfBoundsException", LedgerBoundsTest::publishNoSuch);
        Check.sentence("16: also, when the node is none of the channel's", LedgerBoundsTest::publishByNoneOfIts);
        Check.sentence("16: it is not OPEN", LedgerBoundsTest::publishNotOpen);
        Check.sentence("16: IndexOutOfBoundsException first", LedgerBoundsTest::publishIndexFirst);
    }

    private static void punish() {
        Check.sentence("17: the node that did not publish punishes", LedgerBoundsTest::theOtherNodePunishes);
        Check.sentence("17: IndexOutOfBoundsException", LedgerBoundsTest::punishNoChannel);
        Check.sentence("17: the channel is not PUBLISHED", LedgerBoundsTest::punishNotPublished);
        Check.sentence("17: it was the latest state", LedgerBoundsTest::punishLatestState);
        Check.sentence("17: HEIGHT is 10 or more above", LedgerBoundsTest::punishTooLate);
    }

    private static void claim() {
        Check.sentence("18: how many COINS the payee has then", LedgerBoundsTest::payeeHasThen);
        Check.sentence("18: all KNOW the secret", LedgerBoundsTest::allKnow);
        Check.sentence("18: the published state has no such promise", LedgerBoundsTest::claimNotInPublished);
        Check.sentence("18: if none was published, the channel made none", LedgerBoundsTest::claimNothingPublished);
        Check.sentence("18: or it was CLAIMED or TAKEN BACK", LedgerBoundsTest::claimAgain);
        Check.sentence("18: it is not the lock's secret", LedgerBoundsTest::claimWrongSecret);
        Check.sentence("18: the channel is not PUBLISHED", LedgerBoundsTest::claimNotPublished);
        Check.sentence("18: may be punished", LedgerBoundsTest::claimWhilePunishable);
        Check.sentence("18: the deadline is not above HEIGHT", LedgerBoundsTest::claimTooLate);
        Check.sentence("18: 24 others are known", LedgerBoundsTest::claimWith24Others);
        Check.sentence("18: IndexOutOfBoundsException first", LedgerBoundsTest::claimIndexFirst);
        Check.sentence("18: IllegalArgumentException second", LedgerBoundsTest::claimArgumentSecond);
    }

    private static void takeBack() {
        Check.sentence("19: how many COINS the payer has then", LedgerBoundsTest::payerHasThen);
        Check.sentence("19: IndexOutOfBoundsException, as for claim()", LedgerBoundsTest::takeBackNoSuch);
        Check.sentence("19: it was CLAIMED or TAKEN BACK", LedgerBoundsTest::takeBackAgain);
        Check.sentence("19: the channel is not PUBLISHED", LedgerBoundsTest::takeBackNotPublished);
        Check.sentence("19: may be punished", LedgerBoundsTest::takeBackWhilePunishable);
        Check.sentence("19: or the deadline is above HEIGHT", LedgerBoundsTest::takeBackTooEarly);
        Check.sentence("19: IndexOutOfBoundsException first", LedgerBoundsTest::takeBackIndexFirst);
    }

    private static void settle() {
        Check.sentence("20: what the channel is then", LedgerBoundsTest::whatItIsThen);
        Check.sentence("20: IndexOutOfBoundsException", LedgerBoundsTest::settleNoChannel);
        Check.sentence("20: it is not PUBLISHED", LedgerBoundsTest::settleNotPublished);
        Check.sentence("20: is SETTLED already", LedgerBoundsTest::settleAgain);
        Check.sentence("20: HEIGHT is less than 10 above", LedgerBoundsTest::settleTooEarly);
    }

    private static void grow() {
        Check.sentence("22: HEIGHT grows n times by 1", LedgerBoundsTest::growsNTimes);
        Check.sentence("22: how often somebody was punished", LedgerBoundsTest::howOftenPunished);
        Check.sentence("22: n is not 0 .. 1000", LedgerBoundsTest::growsFrom0To1000);
    }

    /** The channel of nodes 4 and 2 with its state 0 published by node 4, and states up to 1 known. */
    private static ChannelNet oldPublished() {
        ChannelNet net = Nets.channel();
        net.promise(0, 4, 300, net.lock(8), 15);
        net.publish(0, 4, 0);
        return net;
    }

    private static void publishesFirstAndLast() {
        ChannelNet net = Nets.promises();
        net.publish(0, 4, 2);
        Check.same("the latest one, by the first node", net.channel(0, 2), 2);
        ChannelNet other = Nets.promises();
        other.publish(0, 2, 0);
        Check.same("the oldest one, by the second node", other.channel(0, 2), 0);
        Check.same("no state is made", other.channel(0, 1), 2);
        Check.same("PUBLISHED", other.channel(0, 0), ChannelNet.PUBLISHED);
        Check.same("nobody gets anything yet", other.coins(4), 999000);
    }

    private static void publishNoSuch() {
        ChannelNet net = Nets.promises();
        Check.refusesEach("channel", net, Check.INDEX, Check.outside(0, 0), channel -> net.publish(channel, 4, 0));
        Check.refusesEach("node", net, Check.INDEX, Check.outside(0, 5), node -> net.publish(0, node, 0));
        Check.refusesEach("state", net, Check.INDEX, Check.outside(0, 2), state -> net.publish(0, 4, state));
        ChannelNet full = Nets.channel();
        Nets.fillStates(full, 0, 4, 63);
        Check.refusesEach("64, state", full, Check.INDEX, Check.outside(0, 63), state -> full.publish(0, 4, state));
        full.publish(0, 4, 63);
        Check.same("the 64th", full.channel(0, 2), 63);
    }

    private static void publishByNoneOfIts() {
        ChannelNet net = Nets.promises();
        Check.refusesEach("node", net, Check.INDEX, new int[] {0, 1, 3, 5}, node -> net.publish(0, node, 0));
    }

    private static void publishNotOpen() {
        ChannelNet net = oldPublished();
        Check.refuses("PUBLISHED, the other node", net, Check.STATE, () -> net.publish(0, 2, 1));
        Check.refuses("PUBLISHED, the same again", net, Check.STATE, () -> net.publish(0, 4, 0));
        Check.same("the publisher stays, so the other node punishes", net.punish(0), 1001000);
        Check.refuses("CLOSED", net, Check.STATE, () -> net.publish(0, 2, 1));
        net.open(4, 2, 1, 1);
        net.close(1);
        Check.refuses("CLOSED by close()", net, Check.STATE, () -> net.publish(1, 4, 0));
    }

    private static void publishIndexFirst() {
        ChannelNet net = oldPublished();
        Check.refuses("channel", net, Check.INDEX, () -> net.publish(1, 4, 0));
        Check.refuses("node, PUBLISHED", net, Check.INDEX, () -> net.publish(0, 3, 0));
        Check.refuses("state, PUBLISHED", net, Check.INDEX, () -> net.publish(0, 4, 2));
        net.punish(0);
        Check.refuses("node, CLOSED", net, Check.INDEX, () -> net.publish(0, 6, 0));
        Check.refuses("state, CLOSED", net, Check.INDEX, () -> net.publish(0, 2, -1));
    }

    private static void theOtherNodePunishes() {
        ChannelNet net = oldPublished();
        Check.same("the second node", net.punish(0), 1001000);
        Check.same("the second node", net.coins(2), 1001000);
        Check.same("the first node", net.coins(4), 999000);
        ChannelNet other = Nets.promises();
        other.publish(0, 2, 1);
        Check.same("the first node", other.punish(0), 1000500);
        Check.same("the second node", other.coins(2), 999500);
    }

    private static void punishNoChannel() {
        ChannelNet net = oldPublished();
        Check.refusesEach("channel", net, Check.INDEX, Check.outside(0, 0), channel -> net.punish(channel));
    }

    private static void punishNotPublished() {
        ChannelNet net = Nets.promises();
        Check.refuses("OPEN", net, Check.STATE, () -> net.punish(0));
        net.publish(0, 4, 0);
        net.punish(0);
        Check.refuses("CLOSED by punish()", net, Check.STATE, () -> net.punish(0));
        net.open(4, 2, 1, 1);
        net.close(1);
        Check.refuses("CLOSED by close()", net, Check.STATE, () -> net.punish(1));
    }

    private static void punishLatestState() {
        ChannelNet net = Nets.promises();
        net.publish(0, 4, 2);
        Check.refuses("the latest one", net, Check.STATE, () -> net.punish(0));
        ChannelNet before = Nets.promises();
        before.publish(0, 4, 1);
        Check.same("the one before", before.punish(0), 1001000);
        ChannelNet only = Nets.channel();
        only.publish(0, 2, 0);
        Check.refuses("the only one", only, Check.STATE, () -> only.punish(0));
    }

    private static void punishTooLate() {
        ChannelNet net = Nets.promises();
        net.grow(3);
        net.publish(0, 4, 0);
        net.grow(10);
        Check.refuses("10 above", net, Check.STATE, () -> net.punish(0));
        net.grow(1);
        Check.refuses("11 above", net, Check.STATE, () -> net.punish(0));
        ChannelNet inTime = Nets.promises();
        inTime.grow(3);
        inTime.publish(0, 4, 0);
        inTime.grow(9);
        Check.same("9 above", inTime.punish(0), 1001000);
        Check.same("0 above", oldPublished().punish(0), 1001000);
    }

    private static void payeeHasThen() {
        ChannelNet net = Nets.promises();
        net.publish(0, 4, 2);
        Check.same("the second node", net.claim(0, 0, 8), 999800);
        Check.same("the first node", net.claim(0, 1, 9), 999100);
        Check.same("the second node", net.coins(2), 999800);
        Check.same("still PUBLISHED, as it is not settled", net.channel(0, 0), ChannelNet.PUBLISHED);
        net.grow(10);
        Check.same("then settled", net.settle(0), ChannelNet.CLOSED);
    }

    private static void allKnow() {
        ChannelNet net = Nets.promises();
        net.publish(0, 4, 2);
        net.claim(0, 0, 8);
        for (int node = 0; node < 6; node++) {
            Check.yes(node + " knows it", net.knows(node, net.lock(8)));
            Check.no(node + " knows the other one", net.knows(node, net.lock(9)));
        }
    }

    private static void claimNotInPublished() {
        ChannelNet net = Nets.promises();
        net.drop(0, 0);
        net.publish(0, 4, 3);
        Check.refuses("it went before", net, Check.INDEX, () -> net.claim(0, 0, 8));
        Check.refusesEach("promise", net, Check.INDEX, Check.outside(0, 1), promise -> net.claim(0, promise, 8));
        Check.refusesEach("channel", net, Check.INDEX, Check.outside(0, 0), channel -> net.claim(channel, 1, 9));
        ChannelNet old = Nets.promises();
        old.publish(0, 4, 1);
        old.grow(10);
        Check.refuses("it was made behind it", old, Check.INDEX, () -> old.claim(0, 1, 9));
        Check.same("it was made with it", old.claim(0, 0, 8), 999800);
    }

    private static void claimNothingPublished() {
        ChannelNet net = Nets.promises();
        net.drop(0, 0);
        Check.refuses("made, and gone", net, Check.STATE, () -> net.claim(0, 0, 8));
        Check.refuses("made", net, Check.STATE, () -> net.claim(0, 1, 9));
        Check.refusesEach("promise", net, Check.INDEX, Check.outside(0, 1), promise -> net.claim(0, promise, 8));
        net.drop(0, 1);
        net.close(0);
        Check.refuses("CLOSED, made", net, Check.STATE, () -> net.claim(0, 1, 9));
        Check.refuses("CLOSED, not made", net, Check.INDEX, () -> net.claim(0, 2, 9));
        net.open(4, 2, 1, 1);
        Check.refuses("it made none", net, Check.INDEX, () -> net.claim(1, 0, 8));
    }

    private static void claimAgain() {
        ChannelNet net = Nets.promises();
        net.publish(0, 4, 2);
        net.claim(0, 0, 8);
        Check.refuses("CLAIMED", net, Check.INDEX, () -> net.claim(0, 0, 8));
        net.grow(5);
        net.takeBack(0, 1);
        Check.refuses("TAKEN BACK", net, Check.INDEX, () -> net.claim(0, 1, 9));
        net.grow(5);
        net.settle(0);
        Check.refuses("and CLOSED", net, Check.INDEX, () -> net.claim(0, 0, 8));
    }

    private static void claimWrongSecret() {
        ChannelNet net = Nets.promises();
        net.publish(0, 4, 2);
        Check.refuses("the other promise's", net, Check.ARGUMENT, () -> net.claim(0, 0, 9));
        Check.refuses("the lock itself", net, Check.ARGUMENT, () -> net.claim(0, 0, net.lock(8)));
        Check.refuses("one bit off", net, Check.ARGUMENT, () -> net.claim(0, 0, 8 + (1L << 32)));
        net.tell(2, 9);
        Check.refuses("a known one", net, Check.ARGUMENT, () -> net.claim(0, 0, 9));
    }

    private static void claimNotPublished() {
        ChannelNet net = Nets.promises();
        Check.refuses("OPEN", net, Check.STATE, () -> net.claim(0, 0, 8));
        net.publish(0, 4, 1);
        net.punish(0);
        Check.refuses("CLOSED by punish()", net, Check.STATE, () -> net.claim(0, 0, 8));
        net.grow(10);
        Check.refuses("CLOSED by punish(), 10 above", net, Check.STATE, () -> net.claim(0, 0, 8));
    }

    private static void claimWhilePunishable() {
        ChannelNet net = Nets.promises();
        net.publish(0, 4, 1);
        Check.refuses("0 above", net, Check.STATE, () -> net.claim(0, 0, 8));
        net.grow(9);
        Check.refuses("9 above", net, Check.STATE, () -> net.claim(0, 0, 8));
        Check.no("nobody learns", net.knows(2, net.lock(8)));
        net.grow(1);
        Check.same("10 above", net.claim(0, 0, 8), 999800);
        ChannelNet latest = Nets.promises();
        latest.publish(0, 4, 2);
        Check.same("the latest one, 0 above", latest.claim(0, 0, 8), 999800);
    }

    private static void claimTooLate() {
        ChannelNet net = Nets.promises();
        net.publish(0, 4, 2);
        net.grow(5);
        Check.refuses("at the deadline", net, Check.STATE, () -> net.claim(0, 1, 9));
        net.grow(9);
        Check.refuses("behind it", net, Check.STATE, () -> net.claim(0, 1, 9));
        Check.same("one below", net.claim(0, 0, 8), 999800);
    }

    private static void claimWith24Others() {
        ChannelNet net = Nets.promises();
        Nets.fillSecrets(net, 23);
        net.publish(0, 4, 2);
        Check.same("the 24th", net.claim(0, 0, 8), 999800);
        Check.refuses("24 others", net, Check.STATE, () -> net.claim(0, 1, 9));
        ChannelNet known = Nets.promises();
        Nets.fillSecrets(known, 23);
        known.tell(3, 9);
        known.publish(0, 4, 2);
        Check.same("one of the 24", known.claim(0, 1, 9), 999100);
        Check.yes("all know it", known.knows(5, known.lock(9)));
    }

    private static void claimIndexFirst() {
        ChannelNet net = Nets.promises();
        Check.refuses("channel, secret", net, Check.INDEX, () -> net.claim(1, 0, 7));
        Check.refuses("promise, secret, OPEN", net, Check.INDEX, () -> net.claim(0, 2, 7));
        net.publish(0, 4, 1);
        Check.refuses("promise, secret", net, Check.INDEX, () -> net.claim(0, 1, 8));
        Check.refuses("promise, may be punished", net, Check.INDEX, () -> net.claim(0, 1, 9));
        net.grow(20);
        Check.refuses("promise, deadline", net, Check.INDEX, () -> net.claim(0, 1, 9));
        net.takeBack(0, 0);
        Check.refuses("taken back, secret", net, Check.INDEX, () -> net.claim(0, 0, 9));
        net.settle(0);
        Check.refuses("taken back, CLOSED", net, Check.INDEX, () -> net.claim(0, 0, 8));
    }

    private static void claimArgumentSecond() {
        ChannelNet net = Nets.promises();
        Check.refuses("OPEN", net, Check.ARGUMENT, () -> net.claim(0, 0, 9));
        net.publish(0, 4, 1);
        Check.refuses("may be punished", net, Check.ARGUMENT, () -> net.claim(0, 0, 9));
        Nets.fillSecrets(net, 24);
        net.grow(10);
        Check.refuses("24 others", net, Check.ARGUMENT, () -> net.claim(0, 0, 9));
        net.grow(5);
        Check.refuses("deadline", net, Check.ARGUMENT, () -> net.claim(0, 0, 9));
        ChannelNet punished = Nets.promises();
        punished.publish(0, 4, 1);
        punished.punish(0);
        Check.refuses("CLOSED", punished, Check.ARGUMENT, () -> punished.claim(0, 0, 9));
    }

    private static void payerHasThen() {
        ChannelNet net = Nets.promises();
        net.publish(0, 4, 2);
        net.grow(15);
        Check.same("the second node", net.takeBack(0, 1), 999600);
        Check.same("the first node", net.takeBack(0, 0), 999300);
        Check.no("nobody learns", net.knows(4, net.lock(8)));
        Check.same("still PUBLISHED, as it is not settled", net.channel(0, 0), ChannelNet.PUBLISHED);
        Check.same("then settled", net.settle(0), ChannelNet.CLOSED);
    }

    private static void takeBackNoSuch() {
        ChannelNet net = Nets.promises();
        net.drop(0, 0);
        Check.refuses("nothing published, made, and gone", net, Check.STATE, () -> net.takeBack(0, 0));
        Check.refuses("nothing published, made", net, Check.STATE, () -> net.takeBack(0, 1));
        Check.refusesEach("OPEN, promise", net, Check.INDEX, Check.outside(0, 1), promise -> net.takeBack(0, promise));
        net.publish(0, 4, 3);
        net.grow(15);
        Check.refuses("it went before", net, Check.INDEX, () -> net.takeBack(0, 0));
        Check.refusesEach("promise", net, Check.INDEX, Check.outside(0, 1), promise -> net.takeBack(0, promise));
        Check.refusesEach("channel", net, Check.INDEX, Check.outside(0, 0), channel -> net.takeBack(channel, 1));
        ChannelNet old = Nets.promises();
        old.publish(0, 4, 1);
        old.grow(15);
        Check.refuses("it was made behind it", old, Check.INDEX, () -> old.takeBack(0, 1));
    }

    private static void takeBackAgain() {
        ChannelNet net = Nets.promises();
        net.publish(0, 4, 2);
        net.claim(0, 0, 8);
        net.grow(15);
        Check.refuses("CLAIMED", net, Check.INDEX, () -> net.takeBack(0, 0));
        net.takeBack(0, 1);
        Check.refuses("TAKEN BACK", net, Check.INDEX, () -> net.takeBack(0, 1));
        net.settle(0);
        Check.refuses("and CLOSED", net, Check.INDEX, () -> net.takeBack(0, 1));
    }

    private static void takeBackNotPublished() {
        ChannelNet net = Nets.promises();
        net.grow(15);
        Check.refuses("OPEN", net, Check.STATE, () -> net.takeBack(0, 0));
        net.publish(0, 4, 1);
        net.punish(0);
        Check.refuses("CLOSED by punish()", net, Check.STATE, () -> net.takeBack(0, 0));
        net.grow(10);
        Check.refuses("CLOSED by punish(), 10 above", net, Check.STATE, () -> net.takeBack(0, 0));
    }

    private static void takeBackWhilePunishable() {
        ChannelNet net = Nets.promises();
        net.grow(15);
        net.publish(0, 4, 1);
        Check.refuses("0 above", net, Check.STATE, () -> net.takeBack(0, 0));
        net.grow(9);
        Check.refuses("9 above", net, Check.STATE, () -> net.takeBack(0, 0));
        net.grow(1);
        Check.same("10 above", net.takeBack(0, 0), 999300);
        ChannelNet latest = Nets.promises();
        latest.grow(15);
        latest.publish(0, 4, 2);
        Check.same("the latest one, 0 above", latest.takeBack(0, 0), 999300);
    }

    private static void takeBackTooEarly() {
        ChannelNet net = Nets.promises();
        net.publish(0, 4, 2);
        net.grow(4);
        Check.refuses("one below the deadline", net, Check.STATE, () -> net.takeBack(0, 1));
        net.grow(1);
        Check.same("at the deadline", net.takeBack(0, 1), 999600);
        net.grow(9);
        Check.refuses("one below the other's", net, Check.STATE, () -> net.takeBack(0, 0));
        net.grow(2);
        Check.same("behind it", net.takeBack(0, 0), 999300);
    }

    private static void takeBackIndexFirst() {
        ChannelNet net = Nets.promises();
        Check.refuses("channel, OPEN", net, Check.INDEX, () -> net.takeBack(1, 0));
        Check.refuses("promise, OPEN", net, Check.INDEX, () -> net.takeBack(0, 2));
        net.publish(0, 4, 1);
        Check.refuses("promise, may be punished", net, Check.INDEX, () -> net.takeBack(0, 1));
        net.punish(0);
        Check.refuses("promise, CLOSED", net, Check.INDEX, () -> net.takeBack(0, 1));
    }

    private static void whatItIsThen() {
        ChannelNet net = Nets.promises();
        net.publish(0, 4, 2);
        net.grow(10);
        Check.same("2 promises are left", net.settle(0), ChannelNet.PUBLISHED);
        ChannelNet one = Nets.promises();
        one.publish(0, 4, 2);
        one.claim(0, 1, 9);
        one.grow(10);
        Check.same("1 is left", one.settle(0), ChannelNet.PUBLISHED);
        ChannelNet none = oldPublished();
        none.grow(10);
        Check.same("none was in it", none.settle(0), ChannelNet.CLOSED);
    }

    private static void settleNoChannel() {
        ChannelNet net = oldPublished();
        net.grow(10);
        Check.refusesEach("channel", net, Check.INDEX, Check.outside(0, 0), channel -> net.settle(channel));
    }

    private static void settleNotPublished() {
        ChannelNet net = Nets.promises();
        net.grow(20);
        Check.refuses("OPEN", net, Check.STATE, () -> net.settle(0));
        net.publish(0, 4, 1);
        net.punish(0);
        net.grow(10);
        Check.refuses("CLOSED by punish()", net, Check.STATE, () -> net.settle(0));
        net.open(4, 2, 1, 1);
        net.close(1);
        Check.refuses("CLOSED by close()", net, Check.STATE, () -> net.settle(1));
    }

    private static void settleAgain() {
        ChannelNet net = Nets.promises();
        net.publish(0, 4, 2);
        net.grow(10);
        net.settle(0);
        Check.refuses("promises are left", net, Check.STATE, () -> net.settle(0));
        net.grow(5);
        net.takeBack(0, 0);
        Check.refuses("one is left", net, Check.STATE, () -> net.settle(0));
        net.takeBack(0, 1);
        Check.refuses("CLOSED", net, Check.STATE, () -> net.settle(0));
    }

    private static void settleTooEarly() {
        ChannelNet net = Nets.channel();
        net.grow(7);
        net.publish(0, 4, 0);
        Check.refuses("0 above", net, Check.STATE, () -> net.settle(0));
        net.grow(9);
        Check.refuses("9 above", net, Check.STATE, () -> net.settle(0));
        net.grow(1);
        Check.same("10 above", net.settle(0), ChannelNet.CLOSED);
        ChannelNet late = oldPublished();
        late.grow(1000);
        Check.same("far above", late.settle(0), ChannelNet.CLOSED);
    }

    private static void growsNTimes() {
        ChannelNet net = Nets.promises();
        net.watch(2, true);
        net.publish(0, 4, 0);
        Check.same("in one call, at the first growth", net.grow(1000), 1);
        Check.same("height", net.height(), 1000);
        ChannelNet none = oldPublished();
        none.watch(2, true);
        Check.same("not at all", none.grow(0), 0);
        Check.same("height", none.height(), 0);
        Check.same("still PUBLISHED", none.channel(0, 0), ChannelNet.PUBLISHED);
    }

    private static void howOftenPunished() {
        ChannelNet net = new ChannelNet();
        for (int channel = 0; channel < 8; channel++) {
            net.open(channel % 5, 5, 1, 1);
            net.promise(channel, 5, 1, 0, 9);
        }
        net.watch(5, true);
        Check.same("none is published", net.grow(1), 0);
        for (int channel = 0; channel < 8; channel++) {
            net.publish(channel, channel % 5, 0);
        }
        Check.same("all 8 at once", net.grow(1), 8);
        Check.same("once each", net.grow(8), 0);
        Check.same("coins", net.coins(5), 1000008);
    }

    private static void growsFrom0To1000() {
        ChannelNet net = oldPublished();
        net.watch(2, true);
        Check.refusesEach("n", net, Check.ARGUMENT, Check.outside(0, 1000), n -> net.grow(n));
        Check.same("0", net.grow(0), 0);
        Check.same("1000", net.grow(1000), 1);
        Check.same("height", net.height(), 1000);
    }
}
