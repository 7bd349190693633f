import java.util.Arrays;

/** Prices hub networks, finds their cheapest plans exactly, and bounds their costs. */
public final class HubNetworks {
    public static final int NONE = -1, BAD_INDEX = -2, BAD_VALUE = -3, BAD_STATE = -4, FULL = -5;

    private static final int MOST_NODES = 8;
    private static final int PAIRS = 64;
    private static final int MOST_PLACE = 99;
    private static final int MOST_OPENING = 100000;
    private static final int MOST_LOAD = 9999;
    private static final int MOST_FLOW = 100;
    private static final int MOST_FACTOR = 300;
    private static final int FULL_PRICE = 100;
    private static final int MOST_RATE = 1000;
    private static final int MOST_STATES = 4;
    private static final int MOST_BYTES = 120;
    private static final int MOST_DIGITS = 6;
    private static final int MOST_NUMBERS = 4;
    // The shortest command and its semicolon, "h1;", take three bytes.
    private static final int MOST_COMMANDS = 41;
    private static final int BLANK = 32;
    // Each step of improve() goes to a set of hubs that was not there before.
    private static final int MOST_STEPS = 256;
    private static final int CHANGE_BASE = 1000000000;
    // No plan costs more than 800 million: 5600 units, a distance of 198, the highest factors.
    private static final int ABOVE_ANY_COST = 2000000000;

    private final State now;
    // The state before a recorded call: such a call finds its errors only while it works.
    private final State before;
    private final History history;
    private final Prices prices;
    private final Search search;
    private final Bounds bounds;
    private final Text text;

    public HubNetworks() {
        now = new State();
        before = new State();
        history = new History();
        prices = new Prices(now);
        search = new Search(now, prices);
        bounds = new Bounds(now);
        text = new Text();
    }

    public int addNode(int x, int y, int opening, int capacity) {
        before.copyFrom(now);
        return recorded(now.insertNode(x, y, opening, capacity));
    }

    public int setFlow(int from, int to, int flow) {
        before.copyFrom(now);
        return recorded(now.putFlow(from, to, flow));
    }

    public int setNode(int node, int opening, int capacity) {
        if (!now.has(node)) {
            return BAD_INDEX;
        }
        if (!inRange(opening, 0, MOST_OPENING) || !inRange(capacity, 0, MOST_LOAD)) {
            return BAD_VALUE;
        }
        before.copyFrom(now);
        int previous = now.opening[node];
        now.opening[node] = opening;
        now.capacity[node] = capacity;
        return recorded(previous);
    }

    public int setFactors(int collecting, int trunk, int distributing, int minimum) {
        if (!inRange(collecting, 1, MOST_FACTOR) || !inRange(trunk, 0, FULL_PRICE)
                || !inRange(distributing, 1, MOST_FACTOR) || !inRange(minimum, 0, MOST_LOAD)) {
            return BAD_VALUE;
        }
        before.copyFrom(now);
        int previous = now.trunkFactor;
        now.collecting = collecting;
        now.trunkFactor = trunk;
        now.distributing = distributing;
        now.minimum = minimum;
        return recorded(previous);
    }

    public int setCongestion(int first, int firstRate, int second, int secondRate) {
        if (!inRange(first, 0, MOST_LOAD) || !inRange(firstRate, 0, MOST_RATE)
                || !inRange(second, first, MOST_LOAD) || !inRange(secondRate, 0, MOST_RATE)) {
            return BAD_VALUE;
        }
        before.copyFrom(now);
        int previous = now.first;
        now.first = first;
        now.firstRate = firstRate;
        now.second = second;
        now.secondRate = secondRate;
        return recorded(previous);
    }

    public int nodes() {
        return now.count;
    }

    public int node(int node, int what) {
        if (!now.has(node)) {
            return BAD_INDEX;
        }
        switch (what) {
            case 0: return now.x[node];
            case 1: return now.y[node];
            case 2: return now.opening[node];
            case 3: return now.capacity[node];
            case 4: return now.flowFrom(node);
            case 5: return now.flowTo(node);
            default: return BAD_VALUE;
        }
    }

    public int flow(int from, int to) {
        if (!now.has(from) || !now.has(to)) {
            return BAD_INDEX;
        }
        return now.flows[from * MOST_NODES + to];
    }

    public int distance(int one, int other) {
        if (!now.has(one) || !now.has(other)) {
            return BAD_INDEX;
        }
        return now.gap(one, other);
    }

    public int setHub(int node, boolean hub) {
        before.copyFrom(now);
        return recorded(now.putHub(node, hub));
    }

    public int assign(int node, int hub) {
        before.copyFrom(now);
        return recorded(now.putUnder(node, hub));
    }

    public int hubs() {
        return now.hubMask;
    }

    public int hubOf(int node) {
        return now.has(node) ? now.hub[node] : BAD_INDEX;
    }

    public int check() {
        if (!now.isComplete()) {
            return 1;
        }
        prices.sumUp(now.hub);
        return prices.fits(now.hubMask) ? 0 : 2;
    }

    public int load(int hub) {
        if (!now.has(hub)) {
            return BAD_INDEX;
        }
        if (!now.isHub(hub)) {
            return BAD_STATE;
        }
        prices.sumUp(now.hub);
        return prices.loads[hub];
    }

    public int trunk(int from, int to) {
        if (!now.has(from) || !now.has(to)) {
            return BAD_INDEX;
        }
        if (!now.isHub(from) || !now.isHub(to) || from == to) {
            return BAD_STATE;
        }
        prices.sumUp(now.hub);
        return prices.trunks[from * MOST_NODES + to];
    }

    public int cost(int what) {
        if (!inRange(what, 0, 5)) {
            return BAD_VALUE;
        }
        if (!now.isComplete()) {
            return BAD_STATE;
        }
        prices.sumUp(now.hub);
        switch (what) {
            case 1: return prices.collectingCost(now.hub);
            case 2: return prices.trunkCost(now.hubMask);
            case 3: return prices.distributingCost(now.hub);
            case 4: return prices.openingCost(now.hubMask);
            case 5: return prices.congestionCost(prices.loads, now.hubMask);
            default: return prices.total(now.hub, now.hubMask);
        }
    }

    public int path(int from, int to, int index) {
        if (!now.has(from) || !now.has(to)) {
            return BAD_INDEX;
        }
        if (from == to || index < 0) {
            return BAD_VALUE;
        }
        int start = now.hub[from];
        int end = now.hub[to];
        if (start == NONE || end == NONE) {
            return BAD_STATE;
        }
        // Equal neighbours share an index, and whichever of them is returned is the same node.
        int startIndex = start == from ? 0 : 1;
        int endIndex = end == start ? startIndex : startIndex + 1;
        int toIndex = to == end ? endIndex : endIndex + 1;
        if (index == 0) {
            return from;
        }
        if (index == startIndex) {
            return start;
        }
        if (index == endIndex) {
            return end;
        }
        return index == toIndex ? to : NONE;
    }

    public int change(int node, int hub) {
        if (!now.has(node) || !now.has(hub)) {
            return BAD_INDEX;
        }
        if (now.isHub(node) || !now.isHub(hub) || !now.isComplete()) {
            return BAD_STATE;
        }
        int present = now.hub[node];
        int old = prices.total(now.hub, now.hubMask);
        now.hub[node] = hub;
        int changed = prices.total(now.hub, now.hubMask);
        now.hub[node] = present;
        return changed - old + CHANGE_BASE;
    }

    public int settle() {
        if (now.hubMask == 0) {
            return BAD_STATE;
        }
        before.copyFrom(now);
        search.start();
        search.tryHubs(now.hubMask);
        search.takeOver();
        return recorded(search.leastCost());
    }

    public int least(int mask) {
        if (!inRange(mask, 1, now.allNodes())) {
            return BAD_VALUE;
        }
        search.start();
        search.tryHubs(mask);
        return search.leastCost();
    }

    public int best(int count) {
        if (!inRange(count, 0, MOST_NODES)) {
            return BAD_VALUE;
        }
        search.start();
        search.tryAll(count);
        return search.leastCost();
    }

    public int adopt(int count) {
        if (!inRange(count, 0, MOST_NODES)) {
            return BAD_VALUE;
        }
        before.copyFrom(now);
        search.start();
        search.tryAll(count);
        search.takeOver();
        return recorded(search.foundMask == 0 ? NONE : search.foundMask);
    }

    public int improve() {
        if (now.hubMask == 0) {
            return BAD_STATE;
        }
        before.copyFrom(now);
        search.start();
        search.tryHubs(now.hubMask);
        int mask = now.hubMask;
        int steps = 0;
        while (steps < MOST_STEPS && search.tryNeighbours(mask)) {
            mask = search.foundMask;
            steps++;
        }
        search.takeOver();
        return recorded(steps);
    }

    public int cheapest(int from, int to, int what) {
        if (!now.has(from) || !now.has(to)) {
            return BAD_INDEX;
        }
        if (!inRange(what, 0, 2)) {
            return BAD_VALUE;
        }
        if (now.hubMask == 0) {
            return BAD_STATE;
        }
        bounds.findPair(from, to, now.hubMask);
        if (what == 0) {
            return bounds.unitCost;
        }
        return what == 1 ? bounds.firstHub : bounds.secondHub;
    }

    public int hubBound() {
        if (now.hubMask == 0) {
            return BAD_STATE;
        }
        return bounds.flowCost(now.hubMask) + prices.openingCost(now.hubMask);
    }

    public int bound(int count) {
        if (!inRange(count, 0, now.count)) {
            return BAD_VALUE;
        }
        return bounds.flowCost(now.allNodes()) + bounds.smallestOpenings(count == 0 ? 1 : count);
    }

    public int feasible(int mask) {
        if (!inRange(mask, 1, now.allNodes())) {
            return BAD_VALUE;
        }
        search.start();
        return search.countPlans(mask);
    }

    public int type(int code) {
        if (!inRange(code, 0, 255)) {
            return BAD_VALUE;
        }
        return text.append(code) ? text.length : FULL;
    }

    public int clearText() {
        int length = text.length;
        text.length = 0;
        return length;
    }

    public int textFault() {
        return text.parse();
    }

    public int run() {
        if (text.parse() != NONE) {
            return BAD_STATE;
        }
        before.copyFrom(now);
        int done = 0;
        while (done < text.commands && carryOut(done) >= NONE) {
            done++;
        }
        return recorded(done);
    }

    public int undo() {
        return history.restore(now) ? history.count : BAD_STATE;
    }

    public long digest() {
        long h = 31L * 7 + now.count;
        for (int node = 0; node < now.count; node++) {
            for (int what = 0; what <= 5; what++) {
                h = 31 * h + node(node, what);
            }
            h = 31 * h + now.hub[node];
        }
        for (int from = 0; from < now.count; from++) {
            for (int to = 0; to < now.count; to++) {
                h = 31 * h + flow(from, to);
            }
        }
        h = 31 * h + now.hubMask;
        h = 31 * h + now.collecting;
        h = 31 * h + now.trunkFactor;
        h = 31 * h + now.distributing;
        h = 31 * h + now.minimum;
        h = 31 * h + now.first;
        h = 31 * h + now.firstRate;
        h = 31 * h + now.second;
        return 31 * h + now.secondRate;
    }

    /** Keeps the state before the call that ends with this result, unless the result is an error. */
    private int recorded(int result) {
        if (result >= NONE) {
            history.keep(before);
        }
        return result;
    }

    private int carryOut(int command) {
        int one = text.number(command, 0);
        int two = text.number(command, 1);
        int three = text.number(command, 2);
        switch (text.letters[command]) {
            case 'n': return now.insertNode(one, two, three, text.number(command, 3));
            case 'f': return now.putFlow(one, two, three);
            case 'h': return now.putHub(one, true);
            case 'u': return now.putHub(one, false);
            default: return now.putUnder(one, two);
        }
    }

    private static boolean inRange(int value, int low, int high) {
        return value >= low && value <= high;
    }

    private static boolean contains(int mask, int node) {
        return ((mask >> node) & 1) != 0;
    }

    /** Everything that undo() brings back. */
    private static final class State {
        int count;
        final int[] x = new int[MOST_NODES];
        final int[] y = new int[MOST_NODES];
        final int[] opening = new int[MOST_NODES];
        final int[] capacity = new int[MOST_NODES];
        final int[] hub = new int[MOST_NODES];
        final int[] flows = new int[PAIRS];
        int hubMask;
        int collecting = 100;
        int trunkFactor = 50;
        int distributing = 100;
        int minimum;
        int first = MOST_LOAD;
        int firstRate;
        int second = MOST_LOAD;
        int secondRate;

        void copyFrom(State other) {
            count = other.count;
            System.arraycopy(other.x, 0, x, 0, MOST_NODES);
            System.arraycopy(other.y, 0, y, 0, MOST_NODES);
            System.arraycopy(other.opening, 0, opening, 0, MOST_NODES);
            System.arraycopy(other.capacity, 0, capacity, 0, MOST_NODES);
            System.arraycopy(other.hub, 0, hub, 0, MOST_NODES);
            System.arraycopy(other.flows, 0, flows, 0, PAIRS);
            hubMask = other.hubMask;
            collecting = other.collecting;
            trunkFactor = other.trunkFactor;
            distributing = other.distributing;
            minimum = other.minimum;
            first = other.first;
            firstRate = other.firstRate;
            second = other.second;
            secondRate = other.secondRate;
        }

        boolean has(int node) {
            return node >= 0 && node < count;
        }

        boolean isHub(int node) {
            return has(node) && contains(hubMask, node);
        }

        int allNodes() {
            return (1 << count) - 1;
        }

        boolean isComplete() {
            for (int node = 0; node < count; node++) {
                if (hub[node] == NONE) {
                    return false;
                }
            }
            return hubMask != 0;
        }

        int gap(int one, int other) {
            return Math.abs(x[one] - x[other]) + Math.abs(y[one] - y[other]);
        }

        int flowFrom(int node) {
            int sum = 0;
            for (int to = 0; to < count; to++) {
                sum += flows[node * MOST_NODES + to];
            }
            return sum;
        }

        int flowTo(int node) {
            int sum = 0;
            for (int from = 0; from < count; from++) {
                sum += flows[from * MOST_NODES + node];
            }
            return sum;
        }

        int insertNode(int newX, int newY, int newOpening, int newCapacity) {
            if (!inRange(newX, 0, MOST_PLACE) || !inRange(newY, 0, MOST_PLACE)
                    || !inRange(newOpening, 0, MOST_OPENING) || !inRange(newCapacity, 0, MOST_LOAD)) {
                return BAD_VALUE;
            }
            if (count >= MOST_NODES) {
                return FULL;
            }
            int node = count;
            x[node] = newX;
            y[node] = newY;
            opening[node] = newOpening;
            capacity[node] = newCapacity;
            hub[node] = NONE;
            count++;
            return node;
        }

        int putFlow(int from, int to, int flow) {
            if (!has(from) || !has(to)) {
                return BAD_INDEX;
            }
            if (from == to || !inRange(flow, 0, MOST_FLOW)) {
                return BAD_VALUE;
            }
            int previous = flows[from * MOST_NODES + to];
            flows[from * MOST_NODES + to] = flow;
            return previous;
        }

        int putHub(int node, boolean wanted) {
            if (!has(node)) {
                return BAD_INDEX;
            }
            boolean was = contains(hubMask, node);
            if (wanted && !was) {
                hubMask |= 1 << node;
                hub[node] = node;
            }
            if (!wanted && was) {
                hubMask ^= 1 << node;
                unassignAll(node);
            }
            return was ? 1 : 0;
        }

        private void unassignAll(int oldHub) {
            for (int node = 0; node < count; node++) {
                if (hub[node] == oldHub) {
                    hub[node] = NONE;
                }
            }
        }

        int putUnder(int node, int newHub) {
            if (!has(node) || !has(newHub)) {
                return BAD_INDEX;
            }
            if (isHub(node) || !isHub(newHub)) {
                return BAD_STATE;
            }
            int previous = hub[node];
            hub[node] = newHub;
            return previous;
        }
    }

    /** The latest states, oldest first, in rows that are used again and again. */
    private static final class History {
        final State[] kept = new State[MOST_STATES];
        int count;

        History() {
            for (int i = 0; i < MOST_STATES; i++) {
                kept[i] = new State();
            }
        }

        void keep(State state) {
            if (count >= MOST_STATES) {
                dropOldest();
            }
            kept[count].copyFrom(state);
            count++;
        }

        private void dropOldest() {
            State oldest = kept[0];
            for (int i = 1; i < MOST_STATES; i++) {
                kept[i - 1] = kept[i];
            }
            kept[MOST_STATES - 1] = oldest;
            count = MOST_STATES - 1;
        }

        boolean restore(State state) {
            if (count <= 0) {
                return false;
            }
            count--;
            state.copyFrom(kept[count]);
            return true;
        }
    }

    /** The loads, the trunk flows and the costs of an assignment, which sumUp() has to be given first. */
    private static final class Prices {
        private final State state;
        final int[] loads = new int[MOST_NODES];
        final int[] trunks = new int[PAIRS];

        Prices(State state) {
            this.state = state;
        }

        /** Takes an assignment that may leave nodes without a hub: loads count the flows to them, too. */
        void sumUp(int[] at) {
            Arrays.fill(loads, 0);
            Arrays.fill(trunks, 0);
            for (int from = 0; from < state.count; from++) {
                int start = at[from];
                if (start >= 0 && start < MOST_NODES) {
                    addFlows(from, start, at);
                }
            }
        }

        private void addFlows(int from, int start, int[] at) {
            int load = 0;
            for (int to = 0; to < state.count; to++) {
                int flow = state.flows[from * MOST_NODES + to];
                int end = at[to];
                load += flow;
                if (end >= 0 && end < MOST_NODES) {
                    trunks[start * MOST_NODES + end] += flow;
                }
            }
            loads[start] += load;
        }

        boolean fits(int mask) {
            for (int hub = 0; hub < state.count; hub++) {
                if (contains(mask, hub) && loads[hub] > state.capacity[hub]) {
                    return false;
                }
            }
            return true;
        }

        int collectingCost(int[] at) {
            int sum = 0;
            for (int node = 0; node < state.count; node++) {
                if (state.has(at[node])) {
                    sum += state.flowFrom(node) * state.gap(node, at[node]);
                }
            }
            return state.collecting * sum;
        }

        int distributingCost(int[] at) {
            int sum = 0;
            for (int node = 0; node < state.count; node++) {
                if (state.has(at[node])) {
                    sum += state.flowTo(node) * state.gap(node, at[node]);
                }
            }
            return state.distributing * sum;
        }

        int trunkCost(int mask) {
            int sum = 0;
            for (int from = 0; from < state.count; from++) {
                if (contains(mask, from)) {
                    for (int to = 0; to < state.count; to++) {
                        sum += trunks[from * MOST_NODES + to] * state.gap(from, to);
                    }
                }
            }
            return state.trunkFactor * sum + smallTrunkSurcharge(mask);
        }

        /** What the trunks below the minimum cost more than at the trunk factor. */
        int smallTrunkSurcharge(int mask) {
            int sum = 0;
            for (int from = 0; from < state.count; from++) {
                if (contains(mask, from)) {
                    for (int to = 0; to < state.count; to++) {
                        int flow = trunks[from * MOST_NODES + to];
                        if (flow > 0 && flow < state.minimum) {
                            sum += flow * state.gap(from, to);
                        }
                    }
                }
            }
            return (FULL_PRICE - state.trunkFactor) * sum;
        }

        int openingCost(int mask) {
            int sum = 0;
            for (int hub = 0; hub < state.count; hub++) {
                if (contains(mask, hub)) {
                    sum += state.opening[hub];
                }
            }
            return sum;
        }

        int congestionCost(int[] hubLoads, int mask) {
            int sum = 0;
            for (int hub = 0; hub < state.count; hub++) {
                if (contains(mask, hub)) {
                    sum += Math.max(0, hubLoads[hub] - state.first) * state.firstRate;
                    sum += Math.max(0, hubLoads[hub] - state.second) * state.secondRate;
                }
            }
            return sum;
        }

        int total(int[] at, int mask) {
            sumUp(at);
            return collectingCost(at) + trunkCost(mask) + distributingCost(at)
                    + openingCost(mask) + congestionCost(loads, mask);
        }
    }

    /** Looks for a plan that is cheaper than the limit, which each plan that it finds lowers. */
    private static final class Search {
        private final State state;
        private final Prices prices;
        private final int[] gaps = new int[PAIRS];
        // Of a node and a hub: the cost of collecting and distributing if the hub is the node's.
        private final int[] own = new int[PAIRS];
        // Of two nodes: the flows in both directions at the trunk factor.
        private final int[] both = new int[PAIRS];
        private final int[] out = new int[MOST_NODES];
        private final int[] hubList = new int[MOST_NODES];
        private final int[] free = new int[MOST_NODES];
        // Of an index in free: the least own costs of the nodes from there on.
        private final int[] rest = new int[MOST_NODES + 1];
        private final int[] at = new int[MOST_NODES];
        private final int[] loads = new int[MOST_NODES];
        private final int[] found = new int[MOST_NODES];
        private int hubCount;
        private int freeCount;
        private int mask;
        private int limit;
        int foundMask;

        Search(State state, Prices prices) {
            this.state = state;
            this.prices = prices;
        }

        void start() {
            limit = ABOVE_ANY_COST;
            foundMask = 0;
            for (int node = 0; node < state.count; node++) {
                int from = state.flowFrom(node);
                int pull = state.collecting * from + state.distributing * state.flowTo(node);
                out[node] = from;
                for (int other = 0; other < state.count; other++) {
                    int pair = node * MOST_NODES + other;
                    gaps[pair] = state.gap(node, other);
                    own[pair] = pull * gaps[pair];
                    both[pair] = state.trunkFactor
                            * (state.flows[pair] + state.flows[other * MOST_NODES + node]);
                }
            }
        }

        int leastCost() {
            return foundMask == 0 ? NONE : limit;
        }

        void takeOver() {
            if (foundMask != 0) {
                state.hubMask = foundMask;
                System.arraycopy(found, 0, state.hub, 0, state.count);
            }
        }

        /** Tries the masks from the least one on, which thus stays where costs are equal. */
        void tryAll(int hubsWanted) {
            for (int hubs = 1; hubs <= state.allNodes(); hubs++) {
                if (hubsWanted == 0 || Integer.bitCount(hubs) == hubsWanted) {
                    tryHubs(hubs);
                }
            }
        }

        boolean tryNeighbours(int hubs) {
            boolean better = false;
            for (int node = 0; node < state.count; node++) {
                int neighbour = hubs ^ (1 << node);
                if (neighbour != 0 && tryHubs(neighbour)) {
                    better = true;
                }
            }
            return better;
        }

        boolean tryHubs(int hubs) {
            int previous = limit;
            if (placeHubs(hubs)) {
                sumRest();
                place(this, 0, prices.openingCost(hubs) + hubTrunks());
            }
            return limit < previous;
        }

        int countPlans(int hubs) {
            return placeHubs(hubs) ? countFrom(this, 0) : 0;
        }

        /** Tells whether the hubs have room for themselves. */
        private boolean placeHubs(int hubs) {
            mask = hubs;
            hubCount = 0;
            freeCount = 0;
            boolean room = true;
            for (int node = 0; node < state.count; node++) {
                if (contains(hubs, node)) {
                    hubList[hubCount++] = node;
                    at[node] = node;
                    loads[node] = out[node];
                    room = room && loads[node] <= state.capacity[node];
                } else {
                    free[freeCount++] = node;
                }
            }
            return room;
        }

        private void sumRest() {
            rest[freeCount] = 0;
            for (int index = freeCount - 1; index >= 0; index--) {
                int row = free[index] * MOST_NODES;
                int least = ABOVE_ANY_COST;
                for (int i = 0; i < hubCount; i++) {
                    least = Math.min(least, own[row + hubList[i]]);
                }
                rest[index] = rest[index + 1] + least;
            }
        }

        private int hubTrunks() {
            int sum = 0;
            for (int i = 0; i < hubCount; i++) {
                int row = hubList[i] * MOST_NODES;
                for (int j = 0; j < i; j++) {
                    sum += both[row + hubList[j]] * gaps[row + hubList[j]];
                }
            }
            return sum;
        }

        /**
         * Gives the free nodes from the index on to hubs, in the order of the sequences of hubs: so a
         * later plan has to be cheaper. The sum takes each trunk at the trunk factor and leaves
         * congestion out, so it is never more than what the plan costs.
         */
        private static void place(Search s, int index, int sum) {
            if (index > s.freeCount || sum + s.rest[index] >= s.limit) {
                return;
            }
            if (index == s.freeCount) {
                s.weigh(sum);
                return;
            }
            int node = s.free[index];
            for (int i = 0; i < s.hubCount; i++) {
                int hub = s.hubList[i];
                if (s.enter(node, hub)) {
                    place(s, index + 1, sum + s.joining(node, hub, index));
                    s.loads[hub] -= s.out[node];
                }
            }
        }

        private static int countFrom(Search s, int index) {
            if (index >= s.freeCount) {
                return 1;
            }
            int node = s.free[index];
            int plans = 0;
            for (int i = 0; i < s.hubCount; i++) {
                int hub = s.hubList[i];
                if (s.enter(node, hub)) {
                    plans += countFrom(s, index + 1);
                    s.loads[hub] -= s.out[node];
                }
            }
            return plans;
        }

        private boolean enter(int node, int hub) {
            if (loads[hub] + out[node] > state.capacity[hub]) {
                return false;
            }
            loads[hub] += out[node];
            at[node] = hub;
            return true;
        }

        /** What a node adds to the sum of the hubs and of the free nodes before the index. */
        private int joining(int node, int hub, int index) {
            int row = node * MOST_NODES;
            int hubRow = hub * MOST_NODES;
            int sum = own[row + hub];
            for (int i = 0; i < hubCount; i++) {
                sum += both[row + hubList[i]] * gaps[hubRow + hubList[i]];
            }
            for (int i = 0; i < index; i++) {
                sum += both[row + free[i]] * gaps[hubRow + at[free[i]]];
            }
            return sum;
        }

        /** Completes the sum of a plan by what place() has left out. */
        private void weigh(int sum) {
            int cost = sum + prices.congestionCost(loads, mask);
            if (cost < limit && state.minimum > 0) {
                prices.sumUp(at);
                cost += prices.smallTrunkSurcharge(mask);
            }
            if (cost < limit) {
                limit = cost;
                foundMask = mask;
                System.arraycopy(at, 0, found, 0, state.count);
            }
        }
    }

    /** What a unit costs at least on its way over hubs. */
    private static final class Bounds {
        private final State state;
        int unitCost;
        int firstHub;
        int secondHub;

        Bounds(State state) {
            this.state = state;
        }

        void findPair(int from, int to, int mask) {
            unitCost = ABOVE_ANY_COST;
            for (int k = 0; k < state.count; k++) {
                for (int m = 0; m < state.count; m++) {
                    if (contains(mask, k) && contains(mask, m)) {
                        int cost = state.collecting * state.gap(from, k)
                                + state.trunkFactor * state.gap(k, m)
                                + state.distributing * state.gap(m, to);
                        if (cost < unitCost) {
                            unitCost = cost;
                            firstHub = k;
                            secondHub = m;
                        }
                    }
                }
            }
        }

        int flowCost(int mask) {
            int sum = 0;
            for (int from = 0; from < state.count; from++) {
                for (int to = 0; to < state.count; to++) {
                    int flow = state.flows[from * MOST_NODES + to];
                    if (flow > 0) {
                        findPair(from, to, mask);
                        sum += flow * unitCost;
                    }
                }
            }
            return sum;
        }

        int smallestOpenings(int howMany) {
            int taken = 0;
            int sum = 0;
            for (int i = 0; i < howMany && i < state.count; i++) {
                int least = ABOVE_ANY_COST;
                int cheapestNode = 0;
                for (int node = 0; node < state.count; node++) {
                    if (!contains(taken, node) && state.opening[node] < least) {
                        least = state.opening[node];
                        cheapestNode = node;
                    }
                }
                taken |= 1 << cheapestNode;
                sum += least;
            }
            return sum;
        }
    }

    /** The bytes that were typed, and the commands that parse() found in them. */
    private static final class Text {
        private final int[] bytes = new int[MOST_BYTES];
        int length;
        final int[] letters = new int[MOST_COMMANDS];
        private final int[] numbers = new int[MOST_COMMANDS * MOST_NUMBERS];
        int commands;

        boolean append(int code) {
            if (length >= MOST_BYTES) {
                return false;
            }
            bytes[length] = code;
            length++;
            return true;
        }

        int number(int command, int which) {
            return numbers[command * MOST_NUMBERS + which];
        }

        /** Returns the fault of the text, or NONE. */
        int parse() {
            commands = 0;
            int next = 0;
            while (commands < MOST_COMMANDS) {
                int letter = afterBlanks(next);
                if (letter >= length) {
                    return length;
                }
                int wanted = numbersOf(bytes[letter]);
                if (wanted == 0) {
                    return letter;
                }
                letters[commands] = bytes[letter];
                next = letter + 1;
                for (int which = 0; which < wanted; which++) {
                    int start = afterBlanks(next);
                    next = afterDigits(start);
                    if (next == start || next - start > MOST_DIGITS) {
                        return start;
                    }
                    numbers[commands * MOST_NUMBERS + which] = valueOf(start, next);
                }
                commands++;
                next = afterBlanks(next);
                if (next >= length) {
                    return NONE;
                }
                if (bytes[next] != ';') {
                    return next;
                }
                next++;
            }
            return next;
        }

        private static int numbersOf(int letter) {
            switch (letter) {
                case 'n': return 4;
                case 'f': return 3;
                case 'a': return 2;
                case 'h': return 1;
                case 'u': return 1;
                default: return 0;
            }
        }

        private int afterBlanks(int start) {
            int i = start;
            while (i < length && bytes[i] == BLANK) {
                i++;
            }
            return i;
        }

        private int afterDigits(int start) {
            int i = start;
            while (i < length && inRange(bytes[i], '0', '9')) {
                i++;
            }
            return i;
        }

        private int valueOf(int start, int end) {
            int value = 0;
            for (int i = start; i < end; i++) {
                value = value * 10 + bytes[i] - '0';
            }
            return value;
        }
    }
}
