/** All that the face tells of an object. (The class counts no calls, so looking often does no harm.) */
final class Look {
    static final int SECRETS = 40;

    private Look() {
    }

    static String at(ChannelNet net) {
        StringBuilder seen = new StringBuilder();
        seen.append("height ").append(net.height()).append(" coins");
        for (int node = 0; node < 6; node++) {
            seen.append(' ').append(net.coins(node));
        }
        seen.append(" route");
        for (int i = 0; i < net.hop(ChannelNet.NONE); i++) {
            seen.append(' ').append(net.hop(i));
        }
        for (int c = 0; c < net.channels(); c++) {
            addChannel(seen.append("\n channel ").append(c).append(':'), net, c);
        }
        addPayments(seen, net);
        addKnown(seen, net);
        return seen.toString();
    }

    private static void addChannel(StringBuilder seen, ChannelNet net, int c) {
        for (int what = 0; what < 6; what++) {
            seen.append(' ').append(net.channel(c, what));
        }
        for (int s = 0; s <= net.channel(c, 1); s++) {
            seen.append(" s");
            for (int what = 0; what < 4; what++) {
                seen.append(' ').append(net.state(c, s, what));
            }
        }
        for (int p = 0; p < net.channel(c, 5); p++) {
            seen.append(" p");
            for (int what = 0; what < 4; what++) {
                seen.append(' ').append(net.made(c, p, what));
            }
        }
    }

    private static void addPayments(StringBuilder seen, ChannelNet net) {
        boolean there = true;
        for (int p = 0; p < 17 && there; p++) {
            int payment = p;
            there = Check.answer(() -> net.payment(payment, 0)) instanceof Integer;
            for (int what = 0; what < 4 && there; what++) {
                seen.append(what == 0 ? "\n payment " : " ").append(net.payment(p, what));
            }
        }
    }

    private static void addKnown(StringBuilder seen, ChannelNet net) {
        seen.append("\n known");
        for (long secret = 0; secret < SECRETS; secret++) {
            for (int node = 0; node < 6; node++) {
                if (net.knows(node, net.lock(secret))) {
                    seen.append(' ').append(node).append(':').append(secret);
                }
            }
        }
    }
}
