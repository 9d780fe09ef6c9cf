/** Promises 2, 7 to 10, 25 to 28: channels, their promises and what is told of them. */
public final class ChannelsTest {
    public static void main(String[] args) {
        opens();
        promises();
        keeps();
        drops();
        closes();
        tells();
        Check.end();
    }

    private static void opens() {
        ChannelNet net = new ChannelNet();
        Check.same("first channel", net.open(0, 1, 1000, 500), 0);
        Check.same("coins of the first node", net.coins(0), 999000);
        Check.same("coins of the second node", net.coins(1), 999500);
        Check.same("both again", net.open(1, 0, 0, 1), 1);
        Check.same("all coins that are left", net.open(0, 1, 998999, 0), 2);
        Check.same("nothing is left", net.coins(0), 0);
        Check.refuses("the first node has none", net, Check.STATE, () -> net.open(0, 1, 1, 0));
        Check.refuses("the second node has none", net, Check.STATE, () -> net.open(1, 0, 0, 1));
        Check.same("a node without coins", net.open(0, 1, 0, 999500), 3);
        Check.same("channels", net.channels(), 4);
        Check.same("state 0", net.state(0, 0, 0), 1000);
        Check.same("state 0", net.state(0, 0, 1), 500);
        Check.same("it is OPEN", net.channel(0, 0), ChannelNet.OPEN);
        for (int i = 4; i < 8; i++) {
            Check.same("number", net.open(2, 3, 1, 1), i);
        }
        Check.refuses("the ninth", net, Check.STATE, () -> net.open(2, 3, 1, 1));
        net.close(7);
        Check.same("channels", net.channels(), 8);
    }

    private static void promises() {
        ChannelNet net = Nets.channel();
        net.grow(3);
        Check.same("number", net.promise(0, 4, 1000, 7, 4), 0);
        Check.same("number", net.promise(0, 2, 200, 7, Integer.MAX_VALUE), 1);
        Check.same("payer's balance", net.state(0, 2, 0), 0);
        Check.same("payer's balance", net.state(0, 2, 1), 300);
        Check.same("the state before", net.state(0, 1, 1), 500);
        Check.same("coins are not touched", net.coins(4), 999000);
        Check.same("the channel holds them", net.channel(0, 4), 1500);
        for (int i = 2; i < 6; i++) {
            Check.same("number", net.promise(0, 2, 1, i, 4), i);
        }
        Check.refuses("the seventh", net, Check.STATE, () -> net.promise(0, 2, 1, 0, 4));
        net.drop(0, 3);
        Check.same("numbers go on", net.promise(0, 2, 1, 0, 4), 6);
    }

    private static void keeps() {
        ChannelNet net = Nets.channel();
        long lock = net.lock(8);
        net.promise(0, 4, 300, lock, 5);
        net.promise(0, 2, 100, lock, 1);
        Check.same("latest state", net.keep(0, 1, 8), 3);
        Check.same("payee's balance", net.state(0, 3, 0), 800);
        Check.same("payer's balance", net.state(0, 3, 1), 400);
        Check.same("one promise is left", net.state(0, 3, 2), 1);
        Check.yes("the payer knows", net.knows(2, lock));
        Check.yes("the payee knows", net.knows(4, lock));
        Check.no("another one knows", net.knows(0, lock));
        net.grow(4);
        Check.same("one below the deadline", net.keep(0, 0, 8), 4);
        Check.same("payee's balance", net.state(0, 4, 1), 700);
        Check.same("payer's balance", net.state(0, 4, 0), 800);
    }

    private static void drops() {
        ChannelNet net = Nets.channel();
        net.promise(0, 4, 300, net.lock(8), 5);
        net.promise(0, 2, 100, net.lock(8), 5);
        net.grow(9);
        Check.same("latest state", net.drop(0, 0), 3);
        Check.same("payer's balance", net.state(0, 3, 0), 1000);
        Check.same("the other balance", net.state(0, 3, 1), 400);
        Check.no("nobody learns", net.knows(4, net.lock(8)));
        net.publish(0, 4, 0);
        Check.refuses("PUBLISHED", net, Check.STATE, () -> net.drop(0, 1));
        net.punish(0);
        Check.refuses("CLOSED", net, Check.STATE, () -> net.drop(0, 1));
        Check.same("still in the latest state", net.made(0, 1, 3), 1);
    }

    private static void closes() {
        ChannelNet net = Nets.channel();
        net.promise(0, 4, 300, net.lock(8), 5);
        Check.refuses("with a promise", net, Check.STATE, () -> net.close(0));
        net.keep(0, 0, 8);
        net.close(0);
        Check.same("coins of the first node", net.coins(4), 999700);
        Check.same("coins of the second node", net.coins(2), 1000300);
        Check.same("it is CLOSED", net.channel(0, 0), ChannelNet.CLOSED);
        Check.same("it holds nothing", net.channel(0, 4), 0);
        Check.same("states stay known", net.state(0, 2, 1), 800);
        Check.same("nothing was published", net.channel(0, 2), ChannelNet.NONE);
        Check.refuses("CLOSED", net, Check.STATE, () -> net.close(0));
        net.open(4, 2, 5, 5);
        net.publish(1, 2, 0);
        Check.refuses("PUBLISHED", net, Check.STATE, () -> net.close(1));
    }

    private static void tells() {
        ChannelNet net = Nets.channel();
        net.grow(7);
        Check.same("published at first", net.channel(0, 2), ChannelNet.NONE);
        Check.same("height of that at first", net.channel(0, 3), ChannelNet.NONE);
        net.promise(0, 2, 300, net.lock(8), 30);
        net.promise(0, 4, 50, net.lock(8), 40);
        net.drop(0, 0);
        net.publish(0, 2, 2);
        int[] channel = {ChannelNet.PUBLISHED, 3, 2, 7, 1500, 2};
        for (int what = 0; what < channel.length; what++) {
            Check.same("channel, " + what, net.channel(0, what), channel[what]);
        }
        int[][] states = {{1000, 500, 0, 0}, {1000, 200, 1, 300}, {950, 200, 2, 350}, {950, 500, 1, 50}};
        for (int state = 0; state < states.length; state++) {
            for (int what = 0; what < 4; what++) {
                Check.same("state " + state + ", " + what, net.state(0, state, what), states[state][what]);
            }
        }
        int[][] made = {{2, 300, 30, 0}, {4, 50, 40, 1}};
        for (int promise = 0; promise < made.length; promise++) {
            for (int what = 0; what < 4; what++) {
                Check.same("made " + promise + ", " + what, net.made(0, promise, what), made[promise][what]);
            }
        }
        net.punish(0);
        Check.same("the published one stays", net.channel(0, 2), 2);
        Check.same("its height stays", net.channel(0, 3), 7);
        Check.same("state 2 stays", net.state(0, 2, 3), 350);
    }
}
