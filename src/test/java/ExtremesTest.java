import java.util.function.ToLongBiFunction;

/**
 * Every call with every combination of arguments at, next to and far from the ends of their ranges, in
 * networks of each size and state, answered as the Reference answers it.
 */
public final class ExtremesTest extends Checks {
    private static final int[] NODES = {FAR_BELOW, -1, 0, 1, 3, 4, 7, 8, 32, FAR_ABOVE};
    private static final int[] INDEXES = {FAR_BELOW, -1, 0, 1, 2, 3, 4, FAR_ABOVE};
    private static final int[] KINDS = {FAR_BELOW, -1, 0, 1, 2, 3, 4, 5, 6, FAR_ABOVE};
    private static final int[] COUNTS = {FAR_BELOW, -1, 0, 1, 2, 3, 4, 5, 7, 8, 9, FAR_ABOVE};
    private static final int[] MASKS = {FAR_BELOW, -1, 0, 1, 2, 6, 9, 15, 16, 127, 128, 255, 256, FAR_ABOVE};
    private static final int[] PLACES = {FAR_BELOW, -1, 0, 99, 100, FAR_ABOVE};
    private static final int[] OPENINGS = {FAR_BELOW, -1, 0, 100000, 100001, FAR_ABOVE};
    private static final int[] LOADS = {FAR_BELOW, -1, 0, 1, 9998, 9999, 10000, FAR_ABOVE};
    private static final int[] FLOWS = {FAR_BELOW, -1, 0, 100, 101, FAR_ABOVE};
    private static final int[] FACTORS = {FAR_BELOW, 0, 1, 300, 301, FAR_ABOVE};
    private static final int[] TRUNKS = {FAR_BELOW, -1, 0, 100, 101, FAR_ABOVE};
    private static final int[] RATES = {-1, 0, 1000, 1001};
    private static final int[] CODES = {FAR_BELOW, -1, 0, 255, 256, FAR_ABOVE};
    // Leaves calls enough for the last answers of an object.
    private static final int MOST_CALLS = 480;

    private final Situation situation;
    private HubNetworks made;
    private Reference due;
    private int calls;

    private ExtremesTest(Situation situation) {
        this.situation = situation;
    }

    public static void main(String[] args) {
        for (Situation situation : Situation.values()) {
            says(situation.name());
            ExtremesTest test = new ExtremesTest(situation);
            test.renew();
            test.commands();
            test.plans();
            test.properties();
            test.bestPlans();
            test.texts();
        }
        report("ExtremesTest");
    }

    /** The networks, each told by the nodes, their capacity, the flows, the hubs, and the nodes under the first. */
    private enum Situation {
        NO_NODES(0, 0, 0, 0, 0),
        ONE_NODE(1, 0, 0, 0, 0),
        ONE_HUB(1, 0, 0, 1, 0),
        FOUR_WITHOUT_HUBS(4, 100, 10, 0, 0),
        FOUR_INCOMPLETE(4, 100, 10, 6, 8),
        FOUR_COMPLETE(4, 100, 10, 6, 15),
        FOUR_ABOVE_THE_CAPACITY(4, 89, 10, 6, 15),
        FOUR_WITHOUT_PLANS(4, 29, 10, 6, 15),
        FOUR_HUBS(4, 30, 10, 15, 0),
        EIGHT_WITHOUT_HUBS(8, 5600, 100, 0, 0),
        EIGHT_COMPLETE(8, 5600, 100, 129, 255),
        EIGHT_AT_THE_CAPACITY(8, 1400, 100, 15, 0),
        EIGHT_HUBS(8, 700, 100, 255, 0),
        EIGHT_WITHOUT_PLANS(8, 699, 100, 255, 0);

        private final int nodes;
        private final int capacity;
        private final int flow;
        private final int hubs;
        private final int under;

        Situation(int nodes, int capacity, int flow, int hubs, int under) {
            this.nodes = nodes;
            this.capacity = capacity;
            this.flow = flow;
            this.hubs = hubs;
            this.under = under;
        }
    }

    private void renew() {
        made = new HubNetworks();
        due = new Reference();
        calls = 0;
        for (int i = 0; i < situation.nodes; i++) {
            both("addNode()", (x, v) -> x.addNode(v[0], v[1], v[2], v[3]), (r, v) -> r.addNode(v[0], v[1], v[2], v[3]),
                33 * i % 100, 99 - 14 * i, 10 * i, situation.capacity);
        }
        for (int pair = 0; pair < situation.nodes * situation.nodes; pair++) {
            if (pair / situation.nodes != pair % situation.nodes) {
                both("setFlow()", (x, v) -> x.setFlow(v[0], v[1], v[2]), (r, v) -> r.setFlow(v[0], v[1], v[2]),
                    pair / situation.nodes, pair % situation.nodes, situation.flow);
            }
        }
        both("setFactors()", (x, v) -> x.setFactors(100, 50, 100, 3 * v[0]),
            (r, v) -> r.setFactors(100, 50, 100, 3 * v[0]), situation.flow);
        both("setCongestion()", (x, v) -> x.setCongestion(v[0], 7, 2 * v[0], 9),
            (r, v) -> r.setCongestion(v[0], 7, 2 * v[0], 9), 4 * situation.flow);
        makeHubs();
    }

    private void makeHubs() {
        for (int node = 0; node < situation.nodes; node++) {
            if ((situation.hubs >> node & 1) != 0) {
                both("setHub()", (x, v) -> x.setHub(v[0], true), (r, v) -> r.setHub(v[0], true), node);
            }
        }
        int first = Integer.numberOfTrailingZeros(situation.hubs);
        for (int node = 0; node < situation.nodes; node++) {
            if ((situation.under & ~situation.hubs & 1 << node) != 0) {
                both("assign()", (x, v) -> x.assign(v[0], v[1]), (r, v) -> r.assign(v[0], v[1]), node, first);
            }
        }
    }

    private void both(String call, ToLongBiFunction<HubNetworks, int[]> asked,
            ToLongBiFunction<Reference, int[]> wanted, int... values) {
        StringBuilder name = new StringBuilder(call);
        for (int value : values) {
            name.append(' ').append(value);
        }
        calls++;
        due(name.toString(), asked.applyAsLong(made, values), wanted.applyAsLong(due, values));
    }

    /** Each combination of the values; what was recorded is undone, so that the next call finds the same state. */
    private void all(String call, ToLongBiFunction<HubNetworks, int[]> asked, ToLongBiFunction<Reference, int[]> wanted,
            int[]... ranges) {
        int combinations = 1;
        for (int[] range : ranges) {
            combinations *= range.length;
        }
        int[] values = new int[ranges.length];
        for (int combination = 0; combination < combinations; combination++) {
            int rest = combination;
            for (int i = 0; i < ranges.length; i++) {
                values[i] = ranges[i][rest % ranges[i].length];
                rest /= ranges[i].length;
            }
            compare(call, asked, wanted, values);
        }
    }

    private void compare(String call, ToLongBiFunction<HubNetworks, int[]> asked,
            ToLongBiFunction<Reference, int[]> wanted, int... values) {
        if (calls > MOST_CALLS) {
            renew();
        }
        long before = due.digest();
        both(call, asked, wanted, values);
        both(call + " digest()", (x, v) -> x.digest(), (r, v) -> r.digest());
        if (due.digest() != before) {
            both(call + " undo()", (x, v) -> x.undo(), (r, v) -> r.undo());
            both(call + " digest()", (x, v) -> x.digest(), (r, v) -> r.digest());
        }
        if (due.digest() != before) {
            renew();
        }
    }

    private void commands() {
        all("addNode()", (x, v) -> x.addNode(v[0], v[1], v[2], v[3]), (r, v) -> r.addNode(v[0], v[1], v[2], v[3]),
            PLACES, PLACES, OPENINGS, LOADS);
        all("setFlow()", (x, v) -> x.setFlow(v[0], v[1], v[2]), (r, v) -> r.setFlow(v[0], v[1], v[2]),
            NODES, NODES, FLOWS);
        all("setNode()", (x, v) -> x.setNode(v[0], v[1], v[2]), (r, v) -> r.setNode(v[0], v[1], v[2]),
            NODES, OPENINGS, LOADS);
        all("setFactors()", (x, v) -> x.setFactors(v[0], v[1], v[2], v[3]),
            (r, v) -> r.setFactors(v[0], v[1], v[2], v[3]), FACTORS, TRUNKS, FACTORS, LOADS);
        all("setCongestion()", (x, v) -> x.setCongestion(v[0], v[1], v[2], v[3]),
            (r, v) -> r.setCongestion(v[0], v[1], v[2], v[3]), LOADS, RATES, LOADS, RATES);
        all("setHub() true", (x, v) -> x.setHub(v[0], true), (r, v) -> r.setHub(v[0], true), NODES);
        all("setHub() false", (x, v) -> x.setHub(v[0], false), (r, v) -> r.setHub(v[0], false), NODES);
        all("assign()", (x, v) -> x.assign(v[0], v[1]), (r, v) -> r.assign(v[0], v[1]), NODES, NODES);
    }

    private void plans() {
        all("nodes()", (x, v) -> x.nodes(), (r, v) -> r.nodes());
        all("hubs()", (x, v) -> x.hubs(), (r, v) -> r.hubs());
        all("hubOf()", (x, v) -> x.hubOf(v[0]), (r, v) -> r.hubOf(v[0]), NODES);
        all("check()", (x, v) -> x.check(), (r, v) -> r.check());
        all("load()", (x, v) -> x.load(v[0]), (r, v) -> r.load(v[0]), NODES);
        all("trunk()", (x, v) -> x.trunk(v[0], v[1]), (r, v) -> r.trunk(v[0], v[1]), NODES, NODES);
        all("cost()", (x, v) -> x.cost(v[0]), (r, v) -> r.cost(v[0]), KINDS);
        all("path()", (x, v) -> x.path(v[0], v[1], v[2]), (r, v) -> r.path(v[0], v[1], v[2]), NODES, NODES, INDEXES);
        all("change()", (x, v) -> x.change(v[0], v[1]), (r, v) -> r.change(v[0], v[1]), NODES, NODES);
    }

    private void properties() {
        all("node()", (x, v) -> x.node(v[0], v[1]), (r, v) -> r.node(v[0], v[1]), NODES, KINDS);
        all("flow()", (x, v) -> x.flow(v[0], v[1]), (r, v) -> r.flow(v[0], v[1]), NODES, NODES);
        all("distance()", (x, v) -> x.distance(v[0], v[1]), (r, v) -> r.distance(v[0], v[1]), NODES, NODES);
        all("cheapest()", (x, v) -> x.cheapest(v[0], v[1], v[2]), (r, v) -> r.cheapest(v[0], v[1], v[2]),
            NODES, NODES, KINDS);
        all("hubBound()", (x, v) -> x.hubBound(), (r, v) -> r.hubBound());
        all("bound()", (x, v) -> x.bound(v[0]), (r, v) -> r.bound(v[0]), COUNTS);
        all("feasible()", (x, v) -> x.feasible(v[0]), (r, v) -> r.feasible(v[0]), MASKS);
    }

    private void bestPlans() {
        all("settle()", (x, v) -> x.settle(), (r, v) -> r.settle());
        all("improve()", (x, v) -> x.improve(), (r, v) -> r.improve());
        all("least()", (x, v) -> x.least(v[0]), (r, v) -> r.least(v[0]), MASKS);
        all("best()", (x, v) -> x.best(v[0]), (r, v) -> r.best(v[0]), COUNTS);
        all("adopt()", (x, v) -> x.adopt(v[0]), (r, v) -> r.adopt(v[0]), COUNTS);
    }

    private void texts() {
        all("textFault()", (x, v) -> x.textFault(), (r, v) -> r.textFault());
        all("type()", (x, v) -> x.type(v[0]), (r, v) -> r.type(v[0]), CODES);
        all("run()", (x, v) -> x.run(), (r, v) -> r.run());
        all("clearText()", (x, v) -> x.clearText(), (r, v) -> r.clearText());
        for (int left = 4; left >= 0; left--) {
            both("undo()", (x, v) -> x.undo(), (r, v) -> r.undo());
            both("digest()", (x, v) -> x.digest(), (r, v) -> r.digest());
        }
    }
}
