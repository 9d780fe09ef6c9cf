/** Promises 16 to 20, 22: published states, punishing, claiming, taking back, settling, and what watchers do. */
public final class LedgerTest {
    public static void main(String[] args) {
        publishes();
        punishes();
        claims();
        takesBack();
        settles();
        grows();
        Check.end();
    }

    private static void publishes() {
        ChannelNet net = Nets.promises();
        net.grow(3);
        net.publish(0, 2, 1);
        Check.same("it is PUBLISHED", net.channel(0, 0), ChannelNet.PUBLISHED);
        Check.same("its state", net.channel(0, 2), 1);
        Check.same("its height", net.channel(0, 3), 3);
        Check.same("the latest one", net.channel(0, 1), 2);
        Check.same("it holds all", net.channel(0, 4), 1500);
        Check.same("coins", net.coins(4), 999000);
        Check.same("coins", net.coins(2), 999500);
    }

    private static void punishes() {
        ChannelNet net = Nets.promises();
        net.grow(1);
        net.publish(0, 4, 0);
        net.grow(9);
        Check.same("coins of the punisher", net.punish(0), 1001000);
        Check.same("coins", net.coins(2), 1001000);
        Check.same("coins", net.coins(4), 999000);
        Check.same("it is CLOSED", net.channel(0, 0), ChannelNet.CLOSED);
        Check.same("it holds nothing", net.channel(0, 4), 0);
        Check.same("the published state stays", net.channel(0, 2), 0);
        ChannelNet other = Nets.promises();
        other.publish(0, 2, 1);
        Check.same("the first node punishes", other.punish(0), 1000500);
    }

    private static void claims() {
        ChannelNet net = Nets.promises();
        net.publish(0, 4, 2);
        net.grow(4);
        Check.same("coins of the payee", net.claim(0, 1, 9), 999100);
        Check.same("coins", net.coins(4), 999100);
        for (int node = 0; node < 6; node++) {
            Check.yes("all know", net.knows(node, net.lock(9)));
            Check.no("all know the other one", net.knows(node, net.lock(8)));
        }
        Check.same("what it holds", net.channel(0, 4), 1400);
        Check.same("still PUBLISHED", net.channel(0, 0), ChannelNet.PUBLISHED);
        Check.same("the state is as it was", net.state(0, 2, 2), 2);
        Check.same("also the latest one's promise", net.made(0, 1, 3), 1);
        net.grow(6);
        net.settle(0);
        net.grow(4);
        Check.same("one below the deadline", net.claim(0, 0, 8), 1000200);
        Check.same("it is CLOSED", net.channel(0, 0), ChannelNet.CLOSED);
        Check.same("it holds nothing", net.channel(0, 4), 0);
        oldStateIsClaimed();
    }

    private static void oldStateIsClaimed() {
        ChannelNet net = new ChannelNet();
        net.open(4, 2, 1000, 500);
        net.promise(0, 4, 300, net.lock(8), 15);
        net.drop(0, 0);
        net.publish(0, 2, 1);
        net.grow(9);
        Check.refuses("may be punished", net, Check.STATE, () -> net.claim(0, 0, 8));
        net.grow(1);
        Check.same("may be no more", net.claim(0, 0, 8), 999800);
        Check.same("not settled", net.channel(0, 0), ChannelNet.PUBLISHED);
        Check.same("settled", net.settle(0), ChannelNet.CLOSED);
        Check.same("coins", net.coins(4), 999700);
        Check.same("coins", net.coins(2), 1000300);
    }

    private static void takesBack() {
        ChannelNet net = Nets.promises();
        net.publish(0, 4, 2);
        net.grow(5);
        Check.same("coins of the payer", net.takeBack(0, 1), 999600);
        Check.same("coins", net.coins(2), 999600);
        Check.same("what it holds", net.channel(0, 4), 1400);
        Check.no("nobody learns", net.knows(2, net.lock(9)));
        net.grow(5);
        Check.same("a promise is left", net.settle(0), ChannelNet.PUBLISHED);
        Check.same("what it holds", net.channel(0, 4), 300);
        net.grow(5);
        Check.same("coins of the payer", net.takeBack(0, 0), 1000000);
        Check.same("it is CLOSED", net.channel(0, 0), ChannelNet.CLOSED);
        Check.same("coins", net.coins(2), 1000000);
    }

    private static void settles() {
        ChannelNet net = Nets.promises();
        net.grow(2);
        net.publish(0, 4, 2);
        net.grow(9);
        Check.refuses("9 above", net, Check.STATE, () -> net.settle(0));
        net.grow(1);
        Check.same("promises are left", net.settle(0), ChannelNet.PUBLISHED);
        Check.same("coins", net.coins(4), 999700);
        Check.same("coins", net.coins(2), 999900);
        Check.same("what it holds", net.channel(0, 4), 400);
        ChannelNet old = Nets.promises();
        old.publish(0, 4, 0);
        old.grow(10);
        Check.same("no promise in it", old.settle(0), ChannelNet.CLOSED);
        Check.same("coins", old.coins(4), 1000000);
        Check.same("coins", old.coins(2), 1000000);
    }

    private static void grows() {
        ChannelNet net = new ChannelNet();
        for (int channel = 0; channel < 5; channel++) {
            net.open(channel % 2, 2, 10, 1);
            net.promise(channel, 2, 1, 0, 5);
        }
        net.publish(0, 0, 0);
        net.publish(1, 1, 0);
        net.publish(2, 0, 1);
        net.publish(3, 2, 0);
        net.grow(8);
        net.watch(2, true);
        Check.same("no growth, nobody is punished", net.grow(0), 0);
        Check.same("two are punished at 9 above", net.grow(1), 2);
        Check.same("coins of the watcher", net.coins(2), 1000000 - 5 + 22);
        Check.same("the latest state is not", net.channel(2, 0), ChannelNet.PUBLISHED);
        net.watch(1, true);
        Check.same("too late at 10 above", net.grow(1000), 0);
        Check.same("the old state is not", net.channel(3, 0), ChannelNet.PUBLISHED);
        net.publish(4, 0, 0);
        Check.same("once in many steps", net.grow(5), 1);
        Check.same("height", net.height(), 1014);
    }
}
