import java.util.ArrayList;

/** Nodes with coins on a ledger, channels between them, payments over channels, and published states. */
public final class ChannelNet {
    public static final int NONE = -1;
    public static final int OPEN = 0, PUBLISHED = 1, CLOSED = 2;
    public static final int FORWARD = 0, KEPT = 1, DROPPED = 2, DONE = 3;

    private static final int NODES = 6;
    private static final int ALL_NODES = (1 << NODES) - 1;
    private static final int COINS_AT_FIRST = 1000000;
    private static final int CHANNELS_AT_MOST = 8;
    private static final int STATES_AT_MOST = 64;
    private static final int PROMISES_AT_MOST = 6;
    private static final int SECRETS_AT_MOST = 24;
    private static final int PAYMENTS_AT_MOST = 16;
    private static final int HOPS_AT_MOST = NODES - 1;
    private static final int PUNISH_SPAN = 10;
    private static final int BASE_AT_MOST = 10000;
    private static final int PARTS_AT_MOST = 1000000;
    private static final int DELTA_AT_MOST = 100;
    private static final int AMOUNT_AT_MOST = 10000000;
    private static final int DEADLINE_AT_MOST = 1000000000;
    private static final int GROW_AT_MOST = 1000;

    private final int[] coins = new int[NODES];
    private final int[] base = new int[NODES];
    private final int[] parts = new int[NODES];
    private final int[] delta = new int[NODES];
    private final boolean[] watching = new boolean[NODES];
    private final Secrets secrets = new Secrets();
    private final ArrayList<Channel> channels = new ArrayList<>();
    private final ArrayList<Payment> payments = new ArrayList<>();
    private final Route latestRoute = new Route();
    private final Route trail = new Route();
    private int height = 0;

    public ChannelNet() {
        for (int node = 0; node < NODES; node++) {
            coins[node] = COINS_AT_FIRST;
            delta[node] = 1;
        }
    }

    // Nodes and secrets

    public void fees(int node, int base, int parts, int delta)
            throws IndexOutOfBoundsException, IllegalArgumentException {
        checkNode(node);
        checkArgument(base >= 0 && base <= BASE_AT_MOST);
        checkArgument(parts >= 0 && parts <= PARTS_AT_MOST);
        checkArgument(delta >= 1 && delta <= DELTA_AT_MOST);
        this.base[node] = base;
        this.parts[node] = parts;
        this.delta[node] = delta;
    }

    public long tell(int node, long secret) throws IndexOutOfBoundsException, IllegalStateException {
        checkNode(node);
        long lock = lockOf(secret);
        checkState(secrets.hasRoomFor(lock));
        secrets.learn(lock, 1 << node);
        return lock;
    }

    public long lock(long secret) {
        return lockOf(secret);
    }

    public boolean knows(int node, long lock) throws IndexOutOfBoundsException {
        checkNode(node);
        return secrets.isKnown(node, lock);
    }

    public void watch(int node, boolean on) throws IndexOutOfBoundsException {
        checkNode(node);
        watching[node] = on;
    }

    public int coins(int node) throws IndexOutOfBoundsException {
        checkNode(node);
        return coins[node];
    }

    // Channels and their promises

    public int open(int first, int second, int one, int other)
            throws IndexOutOfBoundsException, IllegalArgumentException, IllegalStateException {
        checkNode(first);
        checkNode(second);
        checkArgument(first != second);
        checkArgument(one >= 0 && other >= 0 && (one > 0 || other > 0));
        checkState(channels.size() < CHANNELS_AT_MOST);
        checkState(coins[first] >= one && coins[second] >= other);
        coins[first] -= one;
        coins[second] -= other;
        channels.add(new Channel(first, second, one, other));
        return channels.size() - 1;
    }

    public int promise(int channel, int node, int amount, long lock, int deadline)
            throws IndexOutOfBoundsException, IllegalArgumentException, IllegalStateException {
        Channel at = channelAt(channel);
        checkIndex(at.joins(node));
        checkArgument(amount >= 1);
        checkState(at.canCarry(node, amount) && deadline > height);
        checkState(at.hasRoomForState());
        return at.addPromise(node, amount, lock, deadline);
    }

    public int keep(int channel, int promise, long secret)
            throws IndexOutOfBoundsException, IllegalArgumentException, IllegalStateException {
        Channel at = channelAt(channel);
        Promise kept = latestPromise(at, promise);
        long lock = lockOf(secret);
        checkArgument(kept.lock == lock);
        checkState(at.status == OPEN && kept.deadline > height);
        checkState(at.hasRoomForState());
        checkState(secrets.hasRoomFor(lock));
        at.endPromise(kept, kept.payee);
        secrets.learn(lock, 1 << kept.payer | 1 << kept.payee);
        return at.latest;
    }

    public int drop(int channel, int promise) throws IndexOutOfBoundsException, IllegalStateException {
        Channel at = channelAt(channel);
        Promise dropped = latestPromise(at, promise);
        checkState(at.status == OPEN);
        checkState(at.hasRoomForState());
        at.endPromise(dropped, dropped.payer);
        return at.latest;
    }

    public void close(int channel) throws IndexOutOfBoundsException, IllegalStateException {
        Channel at = channelAt(channel);
        checkState(at.status == OPEN && at.promisesIn(at.latest) == 0);
        payBalances(at, at.latest);
        at.status = CLOSED;
    }

    public int channels() {
        return channels.size();
    }

    public int channel(int channel, int what) throws IndexOutOfBoundsException, IllegalArgumentException {
        Channel at = channelAt(channel);
        switch (what) {
            case 0: return at.status;
            case 1: return at.latest;
            case 2: return at.published;
            case 3: return at.publishedAt;
            case 4: return at.held;
            case 5: return at.promises.size();
            default: throw new IllegalArgumentException("no such what");
        }
    }

    public int state(int channel, int state, int what) throws IndexOutOfBoundsException, IllegalArgumentException {
        Channel at = channelAt(channel);
        checkIndex(at.hasState(state));
        switch (what) {
            case 0: return at.firstBalances[state];
            case 1: return at.secondBalances[state];
            case 2: return at.promisesIn(state);
            case 3: return at.promisedIn(state);
            default: throw new IllegalArgumentException("no such what");
        }
    }

    public int made(int channel, int promise, int what) throws IndexOutOfBoundsException, IllegalArgumentException {
        Channel at = channelAt(channel);
        Promise made = promiseOf(at, promise);
        switch (what) {
            case 0: return made.payer;
            case 1: return made.amount;
            case 2: return made.deadline;
            case 3: return made.isIn(at.latest) ? 1 : 0;
            default: throw new IllegalArgumentException("no such what");
        }
    }

    // Routes and payments

    public int route(int from, int to, int amount) throws IndexOutOfBoundsException, IllegalArgumentException {
        checkEnds(from, to, amount);
        findRoute(from, to, amount);
        return latestRoute.length == 0 ? NONE : latestRoute.firstAmount();
    }

    public int hop(int i) throws IndexOutOfBoundsException {
        if (i == NONE) {
            return latestRoute.length;
        }
        checkIndex(i >= 0 && i < latestRoute.length);
        return latestRoute.channels[latestRoute.slot(i)];
    }

    public int pay(int from, int to, int amount, long lock, int deadline)
            throws IndexOutOfBoundsException, IllegalArgumentException, IllegalStateException {
        checkEnds(from, to, amount);
        checkArgument(deadline >= 0 && deadline <= DEADLINE_AT_MOST);
        checkState(payments.size() < PAYMENTS_AT_MOST);
        findRoute(from, to, amount);
        if (latestRoute.length == 0) {
            return NONE;
        }
        Payment payment = new Payment(latestRoute, to, lock);
        fixDeadlines(payment, deadline);
        payments.add(payment);
        return payments.size() - 1;
    }

    public int step(int payment) throws IndexOutOfBoundsException, IllegalStateException {
        Payment going = paymentAt(payment);
        checkState(going.status != DONE);
        if (going.status != FORWARD) {
            stepBack(going);
        } else if (going.made < going.length) {
            stepForward(going);
        } else {
            going.turnBack(secrets.isKnown(going.receiver, going.lock) ? KEPT : DROPPED);
        }
        return going.status;
    }

    public int payment(int payment, int what) throws IndexOutOfBoundsException, IllegalArgumentException {
        Payment asked = paymentAt(payment);
        switch (what) {
            case 0: return asked.status;
            case 1: return asked.outcome;
            case 2: return asked.made;
            case 3: return asked.ended;
            default: throw new IllegalArgumentException("no such what");
        }
    }

    // The ledger

    public void publish(int channel, int node, int state) throws IndexOutOfBoundsException, IllegalStateException {
        Channel at = channelAt(channel);
        checkIndex(at.joins(node));
        checkIndex(at.hasState(state));
        checkState(at.status == OPEN);
        at.status = PUBLISHED;
        at.publisher = node;
        at.published = state;
        at.publishedAt = height;
    }

    public int punish(int channel) throws IndexOutOfBoundsException, IllegalStateException {
        Channel at = channelAt(channel);
        checkState(at.isPunishable(height));
        payPunisher(at);
        return coins[at.punisher()];
    }

    public int claim(int channel, int promise, long secret)
            throws IndexOutOfBoundsException, IllegalArgumentException, IllegalStateException {
        Channel at = channelAt(channel);
        Promise claimed = ledgerPromise(at, promise);
        long lock = lockOf(secret);
        checkArgument(claimed.lock == lock);
        checkState(at.status == PUBLISHED && !at.isPunishable(height));
        checkState(claimed.deadline > height);
        checkState(secrets.hasRoomFor(lock));
        secrets.learn(lock, ALL_NODES);
        payPromise(at, claimed, claimed.payee);
        return coins[claimed.payee];
    }

    public int takeBack(int channel, int promise) throws IndexOutOfBoundsException, IllegalStateException {
        Channel at = channelAt(channel);
        Promise taken = ledgerPromise(at, promise);
        checkState(at.status == PUBLISHED && !at.isPunishable(height));
        checkState(taken.deadline <= height);
        payPromise(at, taken, taken.payer);
        return coins[taken.payer];
    }

    public int settle(int channel) throws IndexOutOfBoundsException, IllegalStateException {
        Channel at = channelAt(channel);
        checkState(at.status == PUBLISHED && !at.settled);
        checkState(height >= at.publishedAt + PUNISH_SPAN);
        payBalances(at, at.published);
        at.settled = true;
        at.closeIfSpent();
        return at.status;
    }

    public int grow(int n) throws IllegalArgumentException {
        checkArgument(n >= 0 && n <= GROW_AT_MOST);
        int punished = 0;
        for (int i = 0; i < n; i++) {
            height++;
            punished += punishAsWatched();
        }
        return punished;
    }

    public int height() {
        return height;
    }

    // What may be asked for

    private static void checkIndex(boolean there) {
        if (!there) {
            throw new IndexOutOfBoundsException("there is no such thing");
        }
    }

    private static void checkArgument(boolean asSaid) {
        if (!asSaid) {
            throw new IllegalArgumentException("a number is not as said");
        }
    }

    private static void checkState(boolean canBeDone) {
        if (!canBeDone) {
            throw new IllegalStateException("it can't be done as things are");
        }
    }

    private static void checkNode(int node) {
        checkIndex(node >= 0 && node < NODES);
    }

    private static void checkEnds(int from, int to, int amount) {
        checkNode(from);
        checkNode(to);
        checkArgument(from != to);
        checkArgument(amount >= 1 && amount <= AMOUNT_AT_MOST);
    }

    private Channel channelAt(int number) {
        checkIndex(number >= 0 && number < channels.size());
        return channels.get(number);
    }

    private Payment paymentAt(int number) {
        checkIndex(number >= 0 && number < payments.size());
        return payments.get(number);
    }

    private static Promise promiseOf(Channel channel, int number) {
        checkIndex(number >= 0 && number < channel.promises.size());
        return channel.promises.get(number);
    }

    private static Promise latestPromise(Channel channel, int number) {
        Promise promise = promiseOf(channel, number);
        checkIndex(promise.isIn(channel.latest));
        return promise;
    }

    /** With nothing published every promise ever made is there: such a call fails for the channel's state. */
    private static Promise ledgerPromise(Channel channel, int number) {
        Promise promise = promiseOf(channel, number);
        checkIndex(channel.published == NONE || promise.isIn(channel.published) && !promise.paidOut);
        return promise;
    }

    private static long lockOf(long secret) {
        long x = secret * 7046029254386353131L;
        x = (x ^ x >>> 29) * 4768777513237032717L;
        return x ^ x >>> 32;
    }

    // How routes are found

    private void findRoute(int from, int to, int amount) {
        latestRoute.length = 0;
        searchBack(0, from, to, amount, 1 << to);
    }

    /** Goes from the receiver to the sender, as a channel's amount follows from those behind it. */
    private void searchBack(int depth, int from, int node, int amount, int passed) {
        if (depth >= HOPS_AT_MOST) {
            return;
        }
        for (int i = 0; i < channels.size(); i++) {
            Channel channel = channels.get(i);
            if (channel.joins(node)) {
                int payer = channel.partnerOf(node);
                if ((passed >> payer & 1) == 0 && channel.canCarry(payer, amount)) {
                    trail.put(depth, i, payer, amount);
                    goOnFrom(depth, from, payer, amount, passed);
                }
            }
        }
    }

    private void goOnFrom(int depth, int from, int payer, int amount, int passed) {
        if (payer != from) {
            searchBack(depth + 1, from, payer, amount + feeOf(payer, amount), passed | 1 << payer);
        } else if (trail.isBetterThan(latestRoute)) {
            latestRoute.copy(trail);
        }
    }

    private int feeOf(int node, int amount) {
        return base[node] + (int) ((long) amount * parts[node] / 1000000);
    }

    // How payments go

    private void fixDeadlines(Payment payment, int deadline) {
        int due = deadline;
        for (int i = payment.length - 1; i >= 0; i--) {
            payment.deadlines[i] = due;
            due += delta[payment.payers[i]];
        }
    }

    private void stepForward(Payment payment) {
        int i = payment.made;
        Channel next = channelAt(payment.channels[i]);
        int payer = payment.payers[i];
        int amount = payment.amounts[i];
        if (!next.canCarry(payer, amount) || payment.deadlines[i] <= height) {
            payment.turnBack(DROPPED);
            return;
        }
        checkState(next.hasRoomForState());
        payment.promises[i] = next.addPromise(payer, amount, payment.lock, payment.deadlines[i]);
        payment.made++;
    }

    private void stepBack(Payment payment) {
        int i = payment.left - 1;
        Channel channel = channelAt(payment.channels[i]);
        Promise promise = promiseOf(channel, payment.promises[i]);
        if (canEnd(channel, promise, payment.outcome)) {
            checkState(channel.hasRoomForState());
            endAs(channel, promise, payment.outcome);
            payment.ended++;
        }
        payment.goneBack();
    }

    private boolean canEnd(Channel channel, Promise promise, int outcome) {
        return channel.status == OPEN && promise.isIn(channel.latest)
                && (outcome == DROPPED || promise.deadline > height);
    }

    private void endAs(Channel channel, Promise promise, int outcome) {
        if (outcome == KEPT) {
            channel.endPromise(promise, promise.payee);
            secrets.learn(promise.lock, 1 << promise.payer);
        } else {
            channel.endPromise(promise, promise.payer);
        }
    }

    // How the ledger pays

    private int punishAsWatched() {
        int punished = 0;
        for (int i = 0; i < channels.size(); i++) {
            Channel channel = channels.get(i);
            if (channel.isPunishable(height) && watching[channel.punisher()]) {
                payPunisher(channel);
                punished++;
            }
        }
        return punished;
    }

    private void payPunisher(Channel channel) {
        coins[channel.punisher()] += channel.held;
        channel.held = 0;
        channel.status = CLOSED;
    }

    private void payBalances(Channel channel, int state) {
        coins[channel.first] += channel.firstBalances[state];
        coins[channel.second] += channel.secondBalances[state];
        channel.held -= channel.firstBalances[state] + channel.secondBalances[state];
    }

    private void payPromise(Channel channel, Promise promise, int node) {
        coins[node] += promise.amount;
        channel.held -= promise.amount;
        promise.paidOut = true;
        channel.closeIfSpent();
    }

    /** A promise that a channel made; it is in a run of states without gaps. */
    private static final class Promise {
        final int payer;
        final int payee;
        final int amount;
        final long lock;
        final int deadline;
        final int madeIn;
        int goneIn = NONE;
        boolean paidOut = false;

        Promise(int payer, int payee, int amount, long lock, int deadline, int madeIn) {
            this.payer = payer;
            this.payee = payee;
            this.amount = amount;
            this.lock = lock;
            this.deadline = deadline;
            this.madeIn = madeIn;
        }

        boolean isIn(int state) {
            return state >= madeIn && (goneIn == NONE || state < goneIn);
        }
    }

    /** A channel with all its states and promises, and what became of it on the ledger. */
    private static final class Channel {
        final int first;
        final int second;
        final int[] firstBalances = new int[STATES_AT_MOST];
        final int[] secondBalances = new int[STATES_AT_MOST];
        final ArrayList<Promise> promises = new ArrayList<>();
        int latest = 0;
        int status = OPEN;
        int held;
        int publisher = NONE;
        int published = NONE;
        int publishedAt = NONE;
        boolean settled = false;

        Channel(int first, int second, int one, int other) {
            this.first = first;
            this.second = second;
            firstBalances[0] = one;
            secondBalances[0] = other;
            held = one + other;
        }

        boolean joins(int node) {
            return node == first || node == second;
        }

        int partnerOf(int node) {
            return node == first ? second : first;
        }

        boolean hasState(int state) {
            return state >= 0 && state <= latest;
        }

        boolean hasRoomForState() {
            return latest < STATES_AT_MOST - 1;
        }

        int promisesIn(int state) {
            int count = 0;
            for (int i = 0; i < promises.size(); i++) {
                if (promises.get(i).isIn(state)) {
                    count++;
                }
            }
            return count;
        }

        int promisedIn(int state) {
            int sum = 0;
            for (int i = 0; i < promises.size(); i++) {
                if (promises.get(i).isIn(state)) {
                    sum += promises.get(i).amount;
                }
            }
            return sum;
        }

        /** Says nothing of room for a state: a route may lead over a channel that has all its states. */
        boolean canCarry(int payer, int amount) {
            int balance = payer == first ? firstBalances[latest] : secondBalances[latest];
            return status == OPEN && balance >= amount && promisesIn(latest) < PROMISES_AT_MOST;
        }

        int addPromise(int payer, int amount, long lock, int deadline) {
            makeState(payer, -amount);
            promises.add(new Promise(payer, partnerOf(payer), amount, lock, deadline, latest));
            return promises.size() - 1;
        }

        void endPromise(Promise promise, int receiver) {
            makeState(receiver, promise.amount);
            promise.goneIn = latest;
        }

        private void makeState(int node, int change) {
            firstBalances[latest + 1] = firstBalances[latest] + (node == first ? change : 0);
            secondBalances[latest + 1] = secondBalances[latest] + (node == second ? change : 0);
            latest++;
        }

        int punisher() {
            return partnerOf(publisher);
        }

        boolean isPunishable(int height) {
            return status == PUBLISHED && published < latest && height < publishedAt + PUNISH_SPAN;
        }

        /** An amount is never 0, so a settled channel holds nothing just when no promise is left. */
        void closeIfSpent() {
            if (settled && held == 0) {
                status = CLOSED;
            }
        }
    }

    /** Known secrets by their locks: no two secrets have the same lock. */
    private static final class Secrets {
        final long[] locks = new long[SECRETS_AT_MOST];
        final int[] knowers = new int[SECRETS_AT_MOST];
        int count = 0;

        int find(long lock) {
            for (int i = 0; i < count; i++) {
                if (locks[i] == lock) {
                    return i;
                }
            }
            return NONE;
        }

        boolean isKnown(int node, long lock) {
            int at = find(lock);
            return at != NONE && (knowers[at] >> node & 1) != 0;
        }

        boolean hasRoomFor(long lock) {
            return count < SECRETS_AT_MOST || find(lock) != NONE;
        }

        void learn(long lock, int nodes) {
            int at = find(lock);
            if (at != NONE) {
                knowers[at] |= nodes;
            } else if (count < SECRETS_AT_MOST) {
                locks[count] = lock;
                knowers[count] = nodes;
                count++;
            }
        }
    }

    /** A route in the order in which it is found, from its last channel to its first one. */
    private static final class Route {
        final int[] channels = new int[HOPS_AT_MOST];
        final int[] payers = new int[HOPS_AT_MOST];
        final int[] amounts = new int[HOPS_AT_MOST];
        int length = 0;

        /** Where the channel stands that comes i channels behind the first one. */
        int slot(int i) {
            return length - 1 - i;
        }

        int firstAmount() {
            return amounts[slot(0)];
        }

        void put(int slot, int channel, int payer, int amount) {
            channels[slot] = channel;
            payers[slot] = payer;
            amounts[slot] = amount;
            length = slot + 1;
        }

        void copy(Route other) {
            System.arraycopy(other.channels, 0, channels, 0, HOPS_AT_MOST);
            System.arraycopy(other.payers, 0, payers, 0, HOPS_AT_MOST);
            System.arraycopy(other.amounts, 0, amounts, 0, HOPS_AT_MOST);
            length = other.length;
        }

        boolean isBetterThan(Route other) {
            if (other.length == 0) {
                return true;
            }
            if (firstAmount() != other.firstAmount()) {
                return firstAmount() < other.firstAmount();
            }
            if (length != other.length) {
                return length < other.length;
            }
            for (int slot = length - 1; slot >= 0; slot--) {
                if (channels[slot] != other.channels[slot]) {
                    return channels[slot] < other.channels[slot];
                }
            }
            return false;
        }
    }

    /** A payment with its channels from first to last, as they were when it was made. */
    private static final class Payment {
        final int receiver;
        final long lock;
        final int length;
        final int[] channels;
        final int[] payers;
        final int[] amounts;
        final int[] deadlines;
        final int[] promises;
        int status = FORWARD;
        int outcome = 0;
        int made = 0;
        int left = 0;
        int ended = 0;

        Payment(Route route, int receiver, long lock) {
            this.receiver = receiver;
            this.lock = lock;
            length = route.length;
            channels = new int[length];
            payers = new int[length];
            amounts = new int[length];
            deadlines = new int[length];
            promises = new int[length];
            for (int i = 0; i < length; i++) {
                channels[i] = route.channels[route.slot(i)];
                payers[i] = route.payers[route.slot(i)];
                amounts[i] = route.amounts[route.slot(i)];
            }
        }

        void turnBack(int as) {
            outcome = as;
            left = made;
            status = left == 0 ? DONE : as;
        }

        void goneBack() {
            left--;
            if (left == 0) {
                status = DONE;
            }
        }
    }
}
