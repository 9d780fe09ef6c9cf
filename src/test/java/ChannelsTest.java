/** Promises 2, 7 to 10, 25 to 28: channels, their promises and what is told of them. */
public final class ChannelsTest {
    public static void main(String[] args) {
        opens();
        openRefuses();
        promises();
        promiseRefuses();
        atMost64States();
        keeps();
        keepRefuses();
        atMost24SecretsByKeep();
        drops();
        closes();
        tells();
        tellRefuses();
        Check.end();
    }

    private static ChannelNet netWithChannel() {
        ChannelNet net = new ChannelNet();
        net.open(4, 2, 1000, 500);
        return net;
    }

    private static void opens() {
        ChannelNet net = new ChannelNet();
        Check.same("first channel", net.open(0, 1, 1000, 500), 0);
        Check.same("coins of the first node", net.coins(0), 999000);
        Check.same("coins of the second node", net.coins(1), 999500);
        Check.same("both again", net.open(1, 0, 0, 1), 1);
        Check.same("all coins that are left", net.open(0, 1, 998999, 0), 2);
        Check.same("nothing is left", net.coins(0), 0);
        Check.refuses("the first node has none", net, Check.STATE, () -> net.open(0, 1, 1, 0));
        Check.refuses("the second node has none", net, Check.STATE, () -> net.open(1, 0, 0, 1));
        Check.same("a node without coins", net.open(0, 1, 0, 999500), 3);
        Check.same("channels", net.channels(), 4);
        Check.same("state 0", net.state(0, 0, 0), 1000);
        Check.same("state 0", net.state(0, 0, 1), 500);
        Check.same("it is OPEN", net.channel(0, 0), ChannelNet.OPEN);
        for (int i = 4; i < 8; i++) {
            Check.same("number", net.open(2, 3, 1, 1), i);
        }
        Check.refuses("the ninth", net, Check.STATE, () -> net.open(2, 3, 1, 1));
        Check.refuses("argument before state", net, Check.ARGUMENT, () -> net.open(2, 2, 1, 1));
        net.close(7);
        Check.refuses("the ninth, one is CLOSED", net, Check.STATE, () -> net.open(2, 3, 1, 1));
        Check.same("channels", net.channels(), 8);
    }

    private static void openRefuses() {
        ChannelNet net = new ChannelNet();
        Check.refuses("first -1", net, Check.INDEX, () -> net.open(-1, 1, 1, 1));
        Check.refuses("second 6", net, Check.INDEX, () -> net.open(1, 6, 1, 1));
        Check.refuses("second -1", net, Check.INDEX, () -> net.open(1, -1, 1, 1));
        Check.refuses("both are one, but none", net, Check.INDEX, () -> net.open(6, 6, 1, 1));
        Check.refuses("both are one", net, Check.ARGUMENT, () -> net.open(3, 3, 1, 1));
        Check.refuses("share below 0", net, Check.ARGUMENT, () -> net.open(0, 1, -1, 5));
        Check.refuses("share below 0", net, Check.ARGUMENT, () -> net.open(0, 1, 5, -1));
        Check.refuses("both shares 0", net, Check.ARGUMENT, () -> net.open(0, 1, 0, 0));
        Check.refuses("argument before coins", net, Check.ARGUMENT, () -> net.open(0, 1, 1000001, -1));
        Check.refuses("too many coins", net, Check.STATE, () -> net.open(0, 1, 1000001, 0));
        Check.refuses("too many coins", net, Check.STATE, () -> net.open(0, 1, 0, 1000001));
        Check.refuses("far too many coins", net, Check.STATE,
                () -> net.open(0, 1, Integer.MAX_VALUE, Integer.MAX_VALUE));
    }

    private static void promises() {
        ChannelNet net = netWithChannel();
        net.grow(3);
        Check.same("number", net.promise(0, 4, 1000, 7, 4), 0);
        Check.same("number", net.promise(0, 2, 200, 7, Integer.MAX_VALUE), 1);
        Check.same("payer's balance", net.state(0, 2, 0), 0);
        Check.same("payer's balance", net.state(0, 2, 1), 300);
        Check.same("the state before", net.state(0, 1, 1), 500);
        Check.same("coins are not touched", net.coins(4), 999000);
        Check.same("the channel holds them", net.channel(0, 4), 1500);
        for (int i = 2; i < 6; i++) {
            Check.same("number", net.promise(0, 2, 1, i, 4), i);
        }
        Check.refuses("the seventh", net, Check.STATE, () -> net.promise(0, 2, 1, 0, 4));
        net.drop(0, 3);
        Check.same("numbers go on", net.promise(0, 2, 1, 0, 4), 6);
    }

    private static void promiseRefuses() {
        ChannelNet net = netWithChannel();
        net.grow(5);
        Check.refuses("channel -1", net, Check.INDEX, () -> net.promise(-1, 4, 1, 0, 9));
        Check.refuses("channel 1", net, Check.INDEX, () -> net.promise(1, 4, 1, 0, 9));
        Check.refuses("another node", net, Check.INDEX, () -> net.promise(0, 0, 1, 0, 9));
        Check.refuses("no node", net, Check.INDEX, () -> net.promise(0, 6, 1, 0, 9));
        Check.refuses("no node", net, Check.INDEX, () -> net.promise(0, -1, 1, 0, 9));
        Check.refuses("node before amount", net, Check.INDEX, () -> net.promise(0, 0, 0, 0, 9));
        Check.refuses("amount 0", net, Check.ARGUMENT, () -> net.promise(0, 4, 0, 0, 9));
        Check.refuses("amount below 0", net, Check.ARGUMENT, () -> net.promise(0, 4, Integer.MIN_VALUE, 0, 9));
        Check.refuses("amount before deadline", net, Check.ARGUMENT, () -> net.promise(0, 4, 0, 0, 0));
        Check.refuses("balance", net, Check.STATE, () -> net.promise(0, 4, 1001, 0, 9));
        Check.refuses("balance", net, Check.STATE, () -> net.promise(0, 2, 501, 0, 9));
        Check.refuses("deadline is HEIGHT", net, Check.STATE, () -> net.promise(0, 4, 1, 0, 5));
        Check.refuses("deadline below 0", net, Check.STATE, () -> net.promise(0, 4, 1, 0, -1));
        net.publish(0, 4, 0);
        Check.refuses("PUBLISHED", net, Check.STATE, () -> net.promise(0, 4, 1, 0, 9));
        Check.refuses("amount before channel", net, Check.ARGUMENT, () -> net.promise(0, 4, 0, 0, 9));
        net.grow(10);
        net.settle(0);
        Check.refuses("CLOSED", net, Check.STATE, () -> net.promise(0, 4, 1, 0, 99));
    }

    private static void atMost64States() {
        ChannelNet net = netWithChannel();
        long lock = net.lock(8);
        for (int i = 0; i < 31; i++) {
            net.promise(0, 4, 1, lock, 9);
            net.drop(0, i);
        }
        Check.same("63 states", net.channel(0, 1), 62);
        net.promise(0, 4, 1, lock, 9);
        Check.same("64 states", net.channel(0, 1), 63);
        Check.refuses("promise", net, Check.STATE, () -> net.promise(0, 4, 1, lock, 9));
        Check.refuses("drop", net, Check.STATE, () -> net.drop(0, 31));
        Check.refuses("keep", net, Check.STATE, () -> net.keep(0, 31, 8));
        Check.refuses("secret before states", net, Check.ARGUMENT, () -> net.keep(0, 31, 9));
        Check.refuses("promise before states", net, Check.INDEX, () -> net.drop(0, 30));
        net.publish(0, 2, 63);
        Check.same("the last state has a promise", net.state(0, 63, 3), 1);
    }

    private static void keeps() {
        ChannelNet net = netWithChannel();
        long lock = net.lock(8);
        net.promise(0, 4, 300, lock, 5);
        net.promise(0, 2, 100, lock, 1);
        Check.same("latest state", net.keep(0, 1, 8), 3);
        Check.same("payee's balance", net.state(0, 3, 0), 800);
        Check.same("payer's balance", net.state(0, 3, 1), 400);
        Check.same("one promise is left", net.state(0, 3, 2), 1);
        Check.yes("the payer knows", net.knows(2, lock));
        Check.yes("the payee knows", net.knows(4, lock));
        Check.no("another one knows", net.knows(0, lock));
        net.grow(4);
        Check.same("one below the deadline", net.keep(0, 0, 8), 4);
        Check.same("payee's balance", net.state(0, 4, 1), 700);
        Check.same("payer's balance", net.state(0, 4, 0), 800);
    }

    private static void keepRefuses() {
        ChannelNet net = netWithChannel();
        net.promise(0, 4, 300, net.lock(8), 5);
        net.promise(0, 4, 300, net.lock(8), 2);
        Check.refuses("channel -1", net, Check.INDEX, () -> net.keep(-1, 0, 8));
        Check.refuses("channel 1", net, Check.INDEX, () -> net.keep(1, 0, 8));
        Check.refuses("promise -1", net, Check.INDEX, () -> net.keep(0, -1, 8));
        Check.refuses("promise 2", net, Check.INDEX, () -> net.keep(0, 2, 8));
        Check.refuses("wrong secret", net, Check.ARGUMENT, () -> net.keep(0, 0, 9));
        Check.refuses("the lock is no secret", net, Check.ARGUMENT, () -> net.keep(0, 0, net.lock(8)));
        net.grow(2);
        Check.refuses("deadline is HEIGHT", net, Check.STATE, () -> net.keep(0, 1, 8));
        Check.refuses("secret before deadline", net, Check.ARGUMENT, () -> net.keep(0, 1, 9));
        net.keep(0, 0, 8);
        Check.refuses("kept already", net, Check.INDEX, () -> net.keep(0, 0, 8));
        net.promise(0, 4, 1, net.lock(8), 50);
        net.publish(0, 4, 4);
        Check.refuses("PUBLISHED", net, Check.STATE, () -> net.keep(0, 2, 8));
        Check.refuses("secret before channel", net, Check.ARGUMENT, () -> net.keep(0, 2, 9));
        Check.refuses("promise before channel", net, Check.INDEX, () -> net.keep(0, 0, 8));
    }

    private static void atMost24SecretsByKeep() {
        ChannelNet net = netWithChannel();
        net.promise(0, 4, 1, net.lock(24), 9);
        net.promise(0, 4, 1, net.lock(25), 9);
        for (int secret = 1; secret <= 24; secret++) {
            net.tell(0, secret);
        }
        Check.refuses("24 others are known", net, Check.STATE, () -> net.keep(0, 1, 25));
        Check.same("a known one", net.keep(0, 0, 24), 3);
        Check.yes("the payer knows", net.knows(4, net.lock(24)));
    }

    private static void drops() {
        ChannelNet net = netWithChannel();
        net.promise(0, 4, 300, net.lock(8), 5);
        net.promise(0, 2, 100, net.lock(8), 5);
        net.grow(9);
        Check.same("latest state", net.drop(0, 0), 3);
        Check.same("payer's balance", net.state(0, 3, 0), 1000);
        Check.same("the other balance", net.state(0, 3, 1), 400);
        Check.no("nobody learns", net.knows(4, net.lock(8)));
        Check.refuses("dropped already", net, Check.INDEX, () -> net.drop(0, 0));
        Check.refuses("channel -1", net, Check.INDEX, () -> net.drop(-1, 1));
        Check.refuses("channel 1", net, Check.INDEX, () -> net.drop(1, 1));
        Check.refuses("promise -1", net, Check.INDEX, () -> net.drop(0, -1));
        Check.refuses("promise 2", net, Check.INDEX, () -> net.drop(0, 2));
        net.publish(0, 4, 0);
        Check.refuses("PUBLISHED", net, Check.STATE, () -> net.drop(0, 1));
        Check.refuses("promise before channel", net, Check.INDEX, () -> net.drop(0, 0));
        net.punish(0);
        Check.refuses("CLOSED", net, Check.STATE, () -> net.drop(0, 1));
        Check.same("still in the latest state", net.made(0, 1, 3), 1);
    }

    private static void closes() {
        ChannelNet net = netWithChannel();
        net.promise(0, 4, 300, net.lock(8), 5);
        Check.refuses("with a promise", net, Check.STATE, () -> net.close(0));
        net.keep(0, 0, 8);
        net.close(0);
        Check.same("coins of the first node", net.coins(4), 999700);
        Check.same("coins of the second node", net.coins(2), 1000300);
        Check.same("it is CLOSED", net.channel(0, 0), ChannelNet.CLOSED);
        Check.same("it holds nothing", net.channel(0, 4), 0);
        Check.same("states stay known", net.state(0, 2, 1), 800);
        Check.same("nothing was published", net.channel(0, 2), ChannelNet.NONE);
        Check.refuses("CLOSED", net, Check.STATE, () -> net.close(0));
        Check.refuses("channel -1", net, Check.INDEX, () -> net.close(-1));
        Check.refuses("channel 1", net, Check.INDEX, () -> net.close(1));
        net.open(4, 2, 5, 5);
        net.publish(1, 2, 0);
        Check.refuses("PUBLISHED", net, Check.STATE, () -> net.close(1));
    }

    private static void tells() {
        ChannelNet net = netWithChannel();
        net.grow(7);
        Check.same("published at first", net.channel(0, 2), ChannelNet.NONE);
        Check.same("height of that at first", net.channel(0, 3), ChannelNet.NONE);
        net.promise(0, 2, 300, net.lock(8), 30);
        net.promise(0, 4, 50, net.lock(8), 40);
        net.drop(0, 0);
        net.publish(0, 2, 2);
        int[] channel = {ChannelNet.PUBLISHED, 3, 2, 7, 1500, 2};
        for (int what = 0; what < channel.length; what++) {
            Check.same("channel, " + what, net.channel(0, what), channel[what]);
        }
        int[][] states = {{1000, 500, 0, 0}, {1000, 200, 1, 300}, {950, 200, 2, 350}, {950, 500, 1, 50}};
        for (int state = 0; state < states.length; state++) {
            for (int what = 0; what < 4; what++) {
                Check.same("state " + state + ", " + what, net.state(0, state, what), states[state][what]);
            }
        }
        int[][] made = {{2, 300, 30, 0}, {4, 50, 40, 1}};
        for (int promise = 0; promise < made.length; promise++) {
            for (int what = 0; what < 4; what++) {
                Check.same("made " + promise + ", " + what, net.made(0, promise, what), made[promise][what]);
            }
        }
        net.punish(0);
        Check.same("the published one stays", net.channel(0, 2), 2);
        Check.same("its height stays", net.channel(0, 3), 7);
        Check.same("state 2 stays", net.state(0, 2, 3), 350);
    }

    private static void tellRefuses() {
        ChannelNet net = netWithChannel();
        net.promise(0, 2, 300, net.lock(8), 30);
        int[] noChannels = {-1, 1, 8, Integer.MIN_VALUE, Integer.MAX_VALUE};
        for (int none : noChannels) {
            Check.refuses("channel", net, Check.INDEX, () -> net.channel(none, 9));
            Check.refuses("state", net, Check.INDEX, () -> net.state(none, 0, 9));
            Check.refuses("made", net, Check.INDEX, () -> net.made(none, 0, 9));
        }
        int[] noParts = {-1, 2, 64, Integer.MIN_VALUE, Integer.MAX_VALUE};
        for (int none : noParts) {
            Check.refuses("state", net, Check.INDEX, () -> net.state(0, none, 9));
            Check.refuses("made", net, Check.INDEX, () -> net.made(0, none, 9));
        }
        Check.refuses("no promise 1", net, Check.INDEX, () -> net.made(0, 1, 0));
        Check.refuses("channel", net, Check.ARGUMENT, () -> net.channel(0, -1));
        Check.refuses("channel", net, Check.ARGUMENT, () -> net.channel(0, 6));
        Check.refuses("state", net, Check.ARGUMENT, () -> net.state(0, 0, -1));
        Check.refuses("state", net, Check.ARGUMENT, () -> net.state(0, 0, 4));
        Check.refuses("made", net, Check.ARGUMENT, () -> net.made(0, 0, -1));
        Check.refuses("made", net, Check.ARGUMENT, () -> net.made(0, 0, 4));
    }
}
