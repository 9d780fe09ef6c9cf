import java.util.ArrayList;
import java.util.HashMap;
import java.util.HashSet;
import java.util.List;
import java.util.Map;
import java.util.Set;
import java.util.TreeMap;

/** A second writing of the document, with whole copies of states, to be compared with the class. */
final class Model {
    record Promise(int payer, int payee, int amount, long lock, int deadline) { }

    static final class State {
        final Map<Integer, Integer> balances = new HashMap<>();
        final TreeMap<Integer, Promise> promises = new TreeMap<>();

        State copy() {
            State copy = new State();
            copy.balances.putAll(balances);
            copy.promises.putAll(promises);
            return copy;
        }
    }

    static final class Channel {
        int first;
        int second;
        final List<State> states = new ArrayList<>();
        final List<Promise> made = new ArrayList<>();
        int status = 0;
        int published = -1;
        int at = -1;
        int publisher = -1;
        TreeMap<Integer, Promise> onLedger = new TreeMap<>();
        boolean settled = false;
        int held;

        State latest() {
            return states.get(states.size() - 1);
        }

        State next() {
            states.add(latest().copy());
            return latest();
        }

        int other(int node) {
            return node == first ? second : first;
        }

        boolean has(int node) {
            return node == first || node == second;
        }
    }

    record Leg(int channel, int payer, int amount, int deadline) { }

    static final class Payment {
        List<Leg> legs;
        int receiver;
        long lock;
        int what = 0;
        int outcome = 0;
        int ended = 0;
        int made = 0;
        final List<int[]> toEnd = new ArrayList<>();
    }

    final int[] coins = new int[6];
    final int[][] terms = new int[6][3];
    final boolean[] watches = new boolean[6];
    final List<Set<Long>> known = new ArrayList<>();
    final List<Channel> channels = new ArrayList<>();
    final List<Payment> payments = new ArrayList<>();
    List<Integer> latestRoute = new ArrayList<>();
    List<Leg> found;
    int height = 0;

    Model() {
        for (int node = 0; node < 6; node++) {
            coins[node] = 1000000;
            terms[node][2] = 1;
            known.add(new HashSet<>());
        }
    }

    static void needIndex(boolean fine) {
        if (!fine) {
            throw new IndexOutOfBoundsException();
        }
    }

    static void needArgument(boolean fine) {
        if (!fine) {
            throw new IllegalArgumentException();
        }
    }

    static void needState(boolean fine) {
        if (!fine) {
            throw new IllegalStateException();
        }
    }

    static void needNode(int node) {
        needIndex(0 <= node && node <= 5);
    }

    Channel channelOf(int channel) {
        needIndex(0 <= channel && channel < channels.size());
        return channels.get(channel);
    }

    long lock(long secret) {
        return lockOf(secret);
    }

    static long lockOf(long secret) {
        long x = secret * 7046029254386353131L;
        x = x ^ (x >>> 29);
        x = x * 4768777513237032717L;
        return x ^ (x >>> 32);
    }

    boolean room(long lock) {
        Set<Long> all = new HashSet<>();
        known.forEach(all::addAll);
        all.add(lock);
        return all.size() <= 24;
    }

    int open(int first, int second, int one, int other) {
        needNode(first);
        needNode(second);
        needArgument(first != second && one >= 0 && other >= 0 && one + (long) other > 0);
        needState(channels.size() < 8 && one <= coins[first] && other <= coins[second]);
        Channel channel = new Channel();
        channel.first = first;
        channel.second = second;
        State state = new State();
        state.balances.put(first, one);
        state.balances.put(second, other);
        channel.states.add(state);
        channel.held = one + other;
        coins[first] -= one;
        coins[second] -= other;
        channels.add(channel);
        return channels.size() - 1;
    }

    void fees(int node, int base, int parts, int delta) {
        needNode(node);
        needArgument(0 <= base && base <= 10000 && 0 <= parts && parts <= 1000000 && 1 <= delta && delta <= 100);
        terms[node] = new int[] {base, parts, delta};
    }

    long tell(int node, long secret) {
        needNode(node);
        needState(room(lockOf(secret)));
        known.get(node).add(lockOf(secret));
        return lockOf(secret);
    }

    boolean knows(int node, long lock) {
        needNode(node);
        return known.get(node).contains(lock);
    }

    private int put(Channel at, int node, int amount, long lock, int deadline) {
        Promise promise = new Promise(node, at.other(node), amount, lock, deadline);
        State next = at.next();
        next.balances.merge(node, -amount, Integer::sum);
        next.promises.put(at.made.size(), promise);
        at.made.add(promise);
        return at.made.size() - 1;
    }

    private void end(Channel at, int promise, boolean kept) {
        State next = at.next();
        Promise gone = next.promises.remove(promise);
        next.balances.merge(kept ? gone.payee : gone.payer, gone.amount, Integer::sum);
        if (kept) {
            known.get(gone.payer).add(gone.lock);
        }
    }

    int promise(int channel, int node, int amount, long lock, int deadline) {
        Channel at = channelOf(channel);
        needIndex(at.has(node));
        needArgument(amount >= 1);
        needState(at.status == 0 && at.latest().promises.size() < 6 && at.states.size() < 64);
        needState(at.latest().balances.get(node) >= amount && deadline > height);
        return put(at, node, amount, lock, deadline);
    }

    int keep(int channel, int promise, long secret) {
        Channel at = channelOf(channel);
        Promise kept = at.latest().promises.get(promise);
        needIndex(kept != null);
        needArgument(lockOf(secret) == kept.lock);
        needState(at.status == 0 && kept.deadline > height && at.states.size() < 64 && room(kept.lock));
        end(at, promise, true);
        known.get(kept.payee).add(kept.lock);
        return at.states.size() - 1;
    }

    int drop(int channel, int promise) {
        Channel at = channelOf(channel);
        needIndex(at.latest().promises.containsKey(promise));
        needState(at.status == 0 && at.states.size() < 64);
        end(at, promise, false);
        return at.states.size() - 1;
    }

    void close(int channel) {
        Channel at = channelOf(channel);
        needState(at.status == 0 && at.latest().promises.isEmpty());
        at.latest().balances.forEach((node, balance) -> coins[node] += balance);
        at.held = 0;
        at.status = 2;
    }

    /** All rows of channels, tried forward; amounts are reckoned only when a row has reached its end. */
    private void tryRows(List<Integer> row, List<Integer> nodes, int to, int amount, int deadline) {
        int node = nodes.get(nodes.size() - 1);
        if (node == to) {
            judge(row, nodes, amount, deadline);
            return;
        }
        for (int c = 0; c < channels.size(); c++) {
            Channel at = channels.get(c);
            if (at.has(node) && !nodes.contains(at.other(node))) {
                row.add(c);
                nodes.add(at.other(node));
                tryRows(row, nodes, to, amount, deadline);
                row.remove(row.size() - 1);
                nodes.remove(nodes.size() - 1);
            }
        }
    }

    private void judge(List<Integer> row, List<Integer> nodes, int amount, int deadline) {
        List<Leg> legs = new ArrayList<>();
        long due = amount;
        int until = deadline;
        for (int i = row.size() - 1; i >= 0; i--) {
            int payer = nodes.get(i);
            Channel at = channels.get(row.get(i));
            if (at.status != 0 || at.latest().promises.size() > 5 || at.latest().balances.get(payer) < due) {
                return;
            }
            legs.add(0, new Leg(row.get(i), payer, (int) due, until));
            due += terms[payer][0] + due * terms[payer][1] / 1000000;
            until += terms[payer][2];
        }
        if (found == null || rank(legs).compareTo(rank(found)) < 0) {
            found = legs;
        }
    }

    private static String rank(List<Leg> legs) {
        StringBuilder rank = new StringBuilder(String.format("%012d %d", legs.get(0).amount, legs.size()));
        legs.forEach(leg -> rank.append(' ').append(leg.channel));
        return rank.toString();
    }

    private void find(int from, int to, int amount, int deadline) {
        found = null;
        tryRows(new ArrayList<>(), new ArrayList<>(List.of(from)), to, amount, deadline);
        latestRoute = new ArrayList<>();
        if (found != null) {
            found.forEach(leg -> latestRoute.add(leg.channel));
        }
    }

    int route(int from, int to, int amount) {
        needNode(from);
        needNode(to);
        needArgument(from != to && 1 <= amount && amount <= 10000000);
        find(from, to, amount, 0);
        return found == null ? -1 : found.get(0).amount;
    }

    int hop(int i) {
        needIndex(-1 <= i && i < latestRoute.size());
        return i == -1 ? latestRoute.size() : latestRoute.get(i);
    }

    int pay(int from, int to, int amount, long lock, int deadline) {
        needNode(from);
        needNode(to);
        needArgument(from != to && 1 <= amount && amount <= 10000000 && 0 <= deadline && deadline <= 1000000000);
        needState(payments.size() < 16);
        find(from, to, amount, deadline);
        if (found == null) {
            return -1;
        }
        Payment payment = new Payment();
        payment.legs = found;
        payment.receiver = to;
        payment.lock = lock;
        payments.add(payment);
        return payments.size() - 1;
    }

    int step(int payment) {
        needIndex(0 <= payment && payment < payments.size());
        Payment p = payments.get(payment);
        needState(p.what != 3);
        if (p.what == 0 && p.made == p.legs.size()) {
            p.what = known.get(p.receiver).contains(p.lock) ? 1 : 2;
            p.outcome = p.what;
        } else if (p.what == 0) {
            forward(p, p.legs.get(p.made));
        } else {
            back(p);
        }
        return p.what;
    }

    private void forward(Payment p, Leg leg) {
        Channel at = channels.get(leg.channel);
        State latest = at.latest();
        if (at.status == 0 && latest.promises.size() <= 5 && latest.balances.get(leg.payer) >= leg.amount
                && leg.deadline > height) {
            needState(at.states.size() < 64);
            p.toEnd.add(new int[] {leg.channel, put(at, leg.payer, leg.amount, p.lock, leg.deadline)});
            p.made++;
        } else {
            p.outcome = 2;
            p.what = p.made > 0 ? 2 : 3;
        }
    }

    private void back(Payment p) {
        int[] last = p.toEnd.get(p.toEnd.size() - 1);
        Channel at = channels.get(last[0]);
        Promise promise = at.latest().promises.get(last[1]);
        if (promise != null && at.status == 0 && (p.outcome == 2 || promise.deadline > height)) {
            needState(at.states.size() < 64);
            end(at, last[1], p.outcome == 1);
            p.ended++;
        }
        p.toEnd.remove(p.toEnd.size() - 1);
        if (p.toEnd.isEmpty()) {
            p.what = 3;
        }
    }

    int payment(int payment, int what) {
        needIndex(0 <= payment && payment < payments.size());
        needArgument(0 <= what && what <= 3);
        Payment p = payments.get(payment);
        return new int[] {p.what, p.outcome, p.made, p.ended}[what];
    }

    void publish(int channel, int node, int state) {
        Channel at = channelOf(channel);
        needIndex(at.has(node) && 0 <= state && state < at.states.size());
        needState(at.status == 0);
        at.status = 1;
        at.publisher = node;
        at.published = state;
        at.at = height;
        at.onLedger = new TreeMap<>(at.states.get(state).promises);
    }

    private boolean punishable(Channel at) {
        return at.status == 1 && at.published + 1 < at.states.size() && height - at.at < 10;
    }

    private int take(Channel at) {
        int node = at.other(at.publisher);
        coins[node] += at.held;
        at.held = 0;
        at.status = 2;
        return coins[node];
    }

    int punish(int channel) {
        Channel at = channelOf(channel);
        needState(punishable(at));
        return take(at);
    }

    private Promise ledger(Channel at, int promise) {
        if (at.published == -1) {
            needIndex(0 <= promise && promise < at.made.size());
            return at.made.get(promise);
        }
        needIndex(at.onLedger.containsKey(promise));
        return at.onLedger.get(promise);
    }

    private int payOut(Channel at, int promise, int node) {
        int amount = at.onLedger.remove(promise).amount;
        coins[node] += amount;
        at.held -= amount;
        closeIfDone(at);
        return coins[node];
    }

    private void closeIfDone(Channel at) {
        if (at.settled && at.onLedger.isEmpty()) {
            at.status = 2;
        }
    }

    int claim(int channel, int promise, long secret) {
        Channel at = channelOf(channel);
        Promise claimed = ledger(at, promise);
        needArgument(claimed.lock == lockOf(secret));
        needState(at.status == 1 && !punishable(at) && claimed.deadline > height && room(claimed.lock));
        known.forEach(set -> set.add(claimed.lock));
        return payOut(at, promise, claimed.payee);
    }

    int takeBack(int channel, int promise) {
        Channel at = channelOf(channel);
        Promise taken = ledger(at, promise);
        needState(at.status == 1 && !punishable(at) && taken.deadline <= height);
        return payOut(at, promise, taken.payer);
    }

    int settle(int channel) {
        Channel at = channelOf(channel);
        needState(at.status == 1 && !at.settled && height - at.at >= 10);
        at.states.get(at.published).balances.forEach((node, balance) -> {
            coins[node] += balance;
            at.held -= balance;
        });
        at.settled = true;
        closeIfDone(at);
        return at.status;
    }

    void watch(int node, boolean on) {
        needNode(node);
        watches[node] = on;
    }

    int grow(int n) {
        needArgument(0 <= n && n <= 1000);
        int count = 0;
        for (int i = 0; i < n; i++) {
            height++;
            for (Channel at : channels) {
                if (punishable(at) && watches[at.other(at.publisher)]) {
                    take(at);
                    count++;
                }
            }
        }
        return count;
    }

    int height() {
        return height;
    }

    int channels() {
        return channels.size();
    }

    int coins(int node) {
        needNode(node);
        return coins[node];
    }

    int channel(int channel, int what) {
        Channel at = channelOf(channel);
        needArgument(0 <= what && what <= 5);
        return new int[] {at.status, at.states.size() - 1, at.published, at.at, at.held, at.made.size()}[what];
    }

    int state(int channel, int state, int what) {
        Channel at = channelOf(channel);
        needIndex(0 <= state && state < at.states.size());
        needArgument(0 <= what && what <= 3);
        State s = at.states.get(state);
        int sum = s.promises.values().stream().mapToInt(Promise::amount).sum();
        return new int[] {s.balances.get(at.first), s.balances.get(at.second), s.promises.size(), sum}[what];
    }

    int made(int channel, int promise, int what) {
        Channel at = channelOf(channel);
        needIndex(0 <= promise && promise < at.made.size());
        needArgument(0 <= what && what <= 3);
        Promise p = at.made.get(promise);
        int there = at.latest().promises.containsKey(promise) ? 1 : 0;
        return new int[] {p.payer, p.amount, p.deadline, there}[what];
    }
}
