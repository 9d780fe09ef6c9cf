import java.lang.reflect.InvocationTargetException;
import java.lang.reflect.Method;
import java.util.Arrays;
import java.util.Map;
import java.util.Random;
import java.util.TreeMap;

/** Random runs of 512 calls, each answer compared with that of the Model; the seeds are fixed. */
public final class ModelTest {
    private static final int RUNS = 1500;
    private static final int CALLS = 512;
    private static final String[] CALLS_OF_THE_FACE = {
        "open", "fees", "tell", "lock", "knows", "promise", "keep", "drop", "close", "route", "hop", "pay", "step",
        "payment", "publish", "punish", "claim", "takeBack", "settle", "watch", "grow", "height", "coins", "channels",
        "channel", "state", "made",
    };

    /** How often each call is drawn, by kinds of runs: all alike, promises, payments, the ledger. */
    private static final int[][] WEIGHTS = {
        {2, 2, 2, 1, 2, 4, 3, 3, 1, 2, 2, 2, 6, 2, 1, 1, 2, 2, 2, 1, 2, 1, 2, 1, 2, 2, 2},
        {2, 1, 2, 0, 1, 30, 12, 14, 0, 1, 1, 2, 9, 1, 0, 0, 1, 1, 1, 1, 1, 1, 1, 1, 2, 3, 3},
        {4, 2, 4, 0, 2, 3, 1, 2, 0, 6, 3, 8, 40, 4, 1, 1, 1, 1, 1, 1, 1, 1, 1, 1, 2, 3, 3},
        {6, 1, 3, 0, 2, 14, 3, 4, 1, 1, 1, 1, 4, 1, 2, 6, 9, 6, 6, 1, 2, 1, 2, 1, 4, 2, 2},
    };

    private static final Map<String, Integer> ANSWERED = new TreeMap<>();

    private final Random random;
    private final int[] weights;
    private final int channelsFirst;
    private final int secrets;
    private final ChannelNet net = new ChannelNet();
    private final Model model = new Model();

    private ModelTest(long seed) {
        random = new Random(seed);
        weights = WEIGHTS[(int) (seed % WEIGHTS.length)];
        channelsFirst = random.nextInt(13);
        secrets = new int[] {3, 12, Look.SECRETS}[random.nextInt(3)];
    }

    public static void main(String[] args) {
        for (int seed = 0; seed < RUNS && !Check.failed(); seed++) {
            new ModelTest(seed).run(seed);
        }
        coverage();
        Check.end();
    }

    /** A random test that never reaches a call's answers would prove nothing. */
    private static void coverage() {
        for (String call : CALLS_OF_THE_FACE) {
            Check.yes("some hundred answers of " + call + ", there were " + ANSWERED.get(call) + ": that", ANSWERED.getOrDefault(call, 0) >= 300);
        }
    }

    private void run(int seed) {
        for (int i = 0; i < CALLS && !Check.failed(); i++) {
            String call = i < channelsFirst ? "open" : draw();
            long[] a = arguments(call);
            String name = "run " + seed + ", call " + i + ": " + call + Arrays.toString(a);
            Object got = Check.answer(() -> ask(net, call, a));
            Object want = Check.answer(() -> ask(model, call, a));
            Check.text(name, got.toString(), want.toString());
            if (!(got instanceof String)) {
                ANSWERED.merge(call, 1, Integer::sum);
            }
            if (i % 64 == 63) {
                compareAll(name);
            }
        }
    }

    private void compareAll(String name) {
        long coins = 0;
        for (int node = 0; node < 6; node++) {
            Check.same(name + ", then coins", net.coins(node), model.coins(node));
            coins += net.coins(node);
            for (long secret = 0; secret < Look.SECRETS; secret++) {
                long lock = Model.lockOf(secret);
                Check.yes(name + ", then knows", net.knows(node, lock) == model.knows(node, lock));
            }
        }
        for (int c = 0; c < model.channels.size(); c++) {
            compareChannel(name, c);
            coins += net.channel(c, 4);
        }
        for (int p = 0; p < model.payments.size(); p++) {
            for (int what = 0; what < 4; what++) {
                Check.same(name + ", then payment", net.payment(p, what), model.payment(p, what));
            }
        }
        for (int i = -1; i < model.latestRoute.size(); i++) {
            Check.same(name + ", then hop", net.hop(i), model.hop(i));
        }
        Check.same(name + ", then all coins together", coins, 6000000);
    }

    private void compareChannel(String name, int c) {
        for (int what = 0; what < 6; what++) {
            Check.same(name + ", then channel", net.channel(c, what), model.channel(c, what));
        }
        for (int what = 0; what < 4; what++) {
            for (int s = 0; s < model.channels.get(c).states.size(); s++) {
                Check.same(name + ", then state", net.state(c, s, what), model.state(c, s, what));
            }
            for (int p = 0; p < model.channels.get(c).made.size(); p++) {
                Check.same(name + ", then made", net.made(c, p, what), model.made(c, p, what));
            }
        }
    }

    private String draw() {
        int left = random.nextInt(Arrays.stream(weights).sum());
        int i = 0;
        while (left >= weights[i]) {
            left -= weights[i];
            i++;
        }
        return CALLS_OF_THE_FACE[i];
    }

    private boolean rarely() {
        return random.nextInt(40) == 0;
    }

    private int node() {
        return rarely() ? random.nextInt(10) - 2 : random.nextInt(6);
    }

    private int below(int count) {
        return rarely() || count == 0 ? random.nextInt(count + 3) - 1 : random.nextInt(count);
    }

    private int nodeOf(int channel) {
        if (rarely() || channel < 0 || channel >= model.channels.size()) {
            return node();
        }
        Model.Channel at = model.channels.get(channel);
        return random.nextBoolean() ? at.first : at.second;
    }

    private int share() {
        int[] shares = {0, 1, 5, 100, 1000, 50000, 400000, 1000000, 1000001, -1};
        return rarely() ? shares[random.nextInt(shares.length)] : random.nextInt(3) * random.nextInt(5000);
    }

    private int amount(int channel, int node) {
        int pick = random.nextInt(12);
        if (pick == 0 && channel >= 0 && channel < model.channels.size()) {
            int balance = model.channels.get(channel).latest().balances.getOrDefault(node, 1);
            return balance + random.nextInt(2);
        }
        return pick == 1 ? random.nextInt(3) - 1 : 1 + random.nextInt(pick < 7 ? 20 : 700);
    }

    private long secret() {
        return random.nextInt(rarely() ? Look.SECRETS : secrets);
    }

    private int deadline() {
        return model.height + random.nextInt(rarely() ? 2 : 30);
    }

    private int promiseOf(int channel) {
        if (channel < 0 || channel >= model.channels.size() || random.nextInt(8) == 0) {
            return below(6);
        }
        Model.Channel at = model.channels.get(channel);
        TreeMap<Integer, Model.Promise> there = at.published < 0 ? at.latest().promises : at.onLedger;
        Integer[] numbers = there.keySet().toArray(new Integer[0]);
        return numbers.length == 0 ? below(at.made.size()) : numbers[random.nextInt(numbers.length)];
    }

    private long secretOf(int channel, int promise) {
        if (!rarely() && channel >= 0 && channel < model.channels.size()) {
            Model.Channel at = model.channels.get(channel);
            for (long secret = 0; secret < Look.SECRETS && promise >= 0 && promise < at.made.size(); secret++) {
                if (Model.lockOf(secret) == at.made.get(promise).lock()) {
                    return secret;
                }
            }
        }
        return secret();
    }

    private int stateOf(int channel) {
        if (channel < 0 || channel >= model.channels.size()) {
            return below(3);
        }
        int count = model.channels.get(channel).states.size();
        return random.nextInt(2) == 0 ? count - 1 : below(count);
    }

    private int goingPayment() {
        int payment = below(model.payments.size());
        for (int i = 0; i < model.payments.size() && !rarely(); i++) {
            int other = (Math.max(payment, 0) + i) % model.payments.size();
            if (model.payments.get(other).what != 3) {
                return other;
            }
        }
        return payment;
    }

    private int ofKind(int kinds) {
        return rarely() ? random.nextInt(10) - 2 : random.nextInt(kinds);
    }

    private long[] arguments(String call) {
        int channel = below(model.channels.size());
        int node = nodeOf(channel);
        int promise = promiseOf(channel);
        switch (call) {
            case "open": return new long[] {node(), node(), share(), share()};
            case "fees": return new long[] {node(), random.nextInt(12) - (rarely() ? 9 : 0),
                random.nextInt(rarely() ? 1200000 : 90000), random.nextInt(rarely() ? 150 : 6)};
            case "tell": return new long[] {node(), secret()};
            case "lock": return new long[] {random.nextLong()};
            case "knows": return new long[] {node(), Model.lockOf(secret())};
            case "promise": return new long[] {channel, node, amount(channel, node), Model.lockOf(secret()), deadline()};
            case "keep": case "claim": return new long[] {channel, promise, secretOf(channel, promise)};
            case "drop": case "takeBack": return new long[] {channel, promise};
            case "route": return new long[] {node(), node(), amount(channel, node)};
            case "hop": return new long[] {random.nextInt(7) - 2};
            case "pay": return new long[] {node(), node(), amount(channel, node), Model.lockOf(secret()),
                rarely() ? -1 : deadline()};
            case "step": return new long[] {goingPayment()};
            case "payment": return new long[] {below(model.payments.size()), ofKind(4)};
            case "publish": return new long[] {channel, node, stateOf(channel)};
            case "watch": return new long[] {node(), random.nextInt(2)};
            case "grow": return new long[] {rarely() ? random.nextInt(1300) - 150 : random.nextInt(8)};
            case "coins": return new long[] {node()};
            case "channel": return new long[] {channel, ofKind(6)};
            case "state": return new long[] {channel, stateOf(channel), ofKind(4)};
            case "made": return new long[] {channel, promise, ofKind(4)};
            default: return new long[] {channel};
        }
    }

    private static Object ask(Object asked, String call, long[] given) throws Exception {
        for (Method method : asked.getClass().getDeclaredMethods()) {
            if (method.getName().equals(call)) {
                Class<?>[] types = method.getParameterTypes();
                Object[] arguments = new Object[types.length];
                for (int i = 0; i < types.length; i++) {
                    arguments[i] = as(types[i], given[i]);
                }
                return invoke(method, asked, arguments);
            }
        }
        throw new NoSuchMethodException(call);
    }

    private static Object as(Class<?> type, long given) {
        if (type == long.class) {
            return given;
        }
        return type == int.class ? (Object) (int) given : (Object) (given == 1);
    }

    private static Object invoke(Method method, Object asked, Object[] arguments) throws Exception {
        try {
            Object answer = method.invoke(asked, arguments);
            return answer == null ? 0 : answer;
        } catch (InvocationTargetException e) {
            throw (Exception) e.getCause();
        }
    }
}
