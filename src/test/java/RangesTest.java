import java.util.List;
import java.util.function.Supplier;
import java.util.function.ToLongFunction;

/** Each argument at the ends of its range and next to them, and the order of the errors. */
public final class RangesTest extends Checks {
    public static void main(String[] args) {
        placesAndCosts();
        placesAndCostsOfNode();
        flows();
        factors();
        congestion();
        stepsInOrder();
        nodeNumbers();
        lowestAndHighestNode();
        properties();
        costParts();
        pathIndexes();
        unitParts();
        masks();
        masksWithoutNodes();
        counts();
        countsWithoutNodes();
        countsOfBound();
        codes();
        indexBeforeValue();
        indexBeforeState();
        valueBeforeState();
        valueBeforeFull();
        errorBeforeNone();
        report("RangesTest");
    }

    /** A recorded call takes both ends of the range of an argument, and nothing outside. */
    private static void range(Supplier<HubNetworks> made, String call, int low, int high,
            Argument argument, long answer, ToLongFunction<HubNetworks> reads) {
        for (int value : new int[] {low, high}) {
            String name = call.replace("?", String.valueOf(value));
            recorded(made, name, x -> argument.in(x, value), answer);
            HubNetworks x = made.get();
            argument.in(x, value);
            due("what " + name + " has set", reads.applyAsLong(x), value);
        }
        outside(made, call, low, high, argument, BAD_VALUE);
    }

    private static void placesAndCosts() {
        says("a node has a place with x and y from 0 to 99, an opening cost (0 to 100000), a capacity (0 to 9999)");
        for (Supplier<HubNetworks> made : List.<Supplier<HubNetworks>>of(HubNetworks::new, RangesTest::sevenNodes)) {
            int node = made.get().nodes();
            range(made, "addNode(?, 1, 1, 1)", 0, 99, (x, v) -> x.addNode(v, 1, 1, 1), node, x -> x.node(node, 0));
            range(made, "addNode(1, ?, 1, 1)", 0, 99, (x, v) -> x.addNode(1, v, 1, 1), node, x -> x.node(node, 1));
            range(made, "addNode(1, 1, ?, 1)", 0, 100000, (x, v) -> x.addNode(1, 1, v, 1), node,
                x -> x.node(node, 2));
            range(made, "addNode(1, 1, 1, ?)", 0, 9999, (x, v) -> x.addNode(1, 1, 1, v), node,
                x -> x.node(node, 3));
        }
    }

    private static HubNetworks sevenNodes() {
        HubNetworks x = new HubNetworks();
        for (int i = 0; i < 7; i++) {
            x.addNode(i, i, i, i);
        }
        return x;
    }

    private static void placesAndCostsOfNode() {
        says("setNode: opening 0 to 100000, capacity 0 to 9999; the previous opening cost");
        for (int node : new int[] {0, 7}) {
            range(Checks::eight, "setNode(" + node + ", ?, 1)", 0, 100000, (x, v) -> x.setNode(node, v, 1), node + 1,
                x -> x.node(node, 2));
            range(Checks::eight, "setNode(" + node + ", 1, ?)", 0, 9999, (x, v) -> x.setNode(node, 1, v), node + 1,
                x -> x.node(node, 3));
        }
        HubNetworks x = one();
        due("setNode(0, 0, 0)", x.setNode(0, 0, 0), 7);
        due("setNode(0, 100000, 0) after an opening cost of 0", x.setNode(0, 100000, 0), 0);
        due("setNode(0, 1, 0) after an opening cost of 100000", x.setNode(0, 1, 0), 100000);
    }

    private static void flows() {
        says("for each pair of different nodes there is a flow, 0 to 100 (0 at first)");
        HubNetworks first = sevenNodes();
        first.addNode(0, 0, 0, 0);
        for (int a = 0; a < 8; a++) {
            for (int b = 0; b < 8; b++) {
                due("flow() at first", first.flow(a, b), 0);
            }
        }
        range(Checks::eight, "setFlow(0, 7, ?)", 0, 100, (x, v) -> x.setFlow(0, 7, v), 1, x -> x.flow(0, 7));
        range(Checks::eight, "setFlow(7, 0, ?)", 0, 100, (x, v) -> x.setFlow(7, 0, v), 1, x -> x.flow(7, 0));
        HubNetworks x = square();
        due("setFlow(0, 2, 100)", x.setFlow(0, 2, 100), 0);
        due("setFlow(0, 2, 0) after 100", x.setFlow(0, 2, 0), 100);
        due("setFlow(0, 2, 1) after 0", x.setFlow(0, 2, 1), 0);
        due("flow(2, 0), the other way", x.flow(2, 0), 0);
        says("setFlow: BAD_VALUE if both are the same");
        refused(Checks::one, "setFlow(0, 0, 0) of the only node", y -> y.setFlow(0, 0, 0), BAD_VALUE);
        for (int node = 0; node < 8; node++) {
            int asked = node;
            refused(Checks::eight, "setFlow(node, node, 0)", y -> y.setFlow(asked, asked, 0), BAD_VALUE);
        }
    }

    /** The digest of a network without nodes with these settings: C, T, D, the minimum, S1, R1, S2, R2. */
    private static long digestOf(int[] settings) {
        long h = 7 * 31 * 31;
        for (int setting : settings) {
            h = 31 * h + setting;
        }
        return h;
    }

    /** A setting takes both ends of its range, and nothing outside; the others are those at first. */
    private static void setting(String call, int at, int low, int high, Argument argument, int previous) {
        for (int value : new int[] {low, high}) {
            int[] settings = {100, 50, 100, 0, 9999, 0, 9999, 0};
            settings[at] = value;
            String name = call.replace("?", String.valueOf(value));
            recorded(HubNetworks::new, name, x -> argument.in(x, value), previous);
            HubNetworks x = new HubNetworks();
            argument.in(x, value);
            due("digest() after " + name, x.digest(), digestOf(settings));
        }
        outside(HubNetworks::new, call, low, high, argument, BAD_VALUE);
        outside(Checks::planned, call, low, high, argument, BAD_VALUE);
    }

    private static void factors() {
        says("C is 1 to 300 (100 at first), T 0 to 100 (50), D 1 to 300 (100), the trunk minimum 0 to 9999 (0)");
        due("digest() at first", new HubNetworks().digest(), digestOf(new int[] {100, 50, 100, 0, 9999, 0, 9999, 0}));
        setting("setFactors(?, 50, 100, 0)", 0, 1, 300, (x, v) -> x.setFactors(v, 50, 100, 0), 50);
        setting("setFactors(100, ?, 100, 0)", 1, 0, 100, (x, v) -> x.setFactors(100, v, 100, 0), 50);
        setting("setFactors(100, 50, ?, 0)", 2, 1, 300, (x, v) -> x.setFactors(100, 50, v, 0), 50);
        setting("setFactors(100, 50, 100, ?)", 3, 0, 9999, (x, v) -> x.setFactors(100, 50, 100, v), 50);
        HubNetworks x = new HubNetworks();
        due("setFactors(1, 0, 1, 0)", x.setFactors(1, 0, 1, 0), 50);
        due("setFactors(300, 100, 300, 9999) after a T of 0", x.setFactors(300, 100, 300, 9999), 0);
        due("setFactors(1, 1, 1, 1) after a T of 100", x.setFactors(1, 1, 1, 1), 100);
    }

    private static void congestion() {
        says("S1 and S2 are 0 to 9999 (both 9999 at first), R1 and R2 0 to 1000 (both 0 at first)");
        setting("setCongestion(?, 0, 9999, 0)", 4, 0, 9999, (x, v) -> x.setCongestion(v, 0, 9999, 0), 9999);
        setting("setCongestion(9999, ?, 9999, 0)", 5, 0, 1000, (x, v) -> x.setCongestion(9999, v, 9999, 0), 9999);
        setting("setCongestion(9999, 0, 9999, ?)", 7, 0, 1000, (x, v) -> x.setCongestion(9999, 0, 9999, v), 9999);
        outside(HubNetworks::new, "setCongestion(0, 0, ?, 0)", 0, 9999,
            (x, v) -> x.setCongestion(0, 0, v, 0), BAD_VALUE);
        refused(HubNetworks::new, "setCongestion(10000, 0, 10000, 0)",
            x -> x.setCongestion(10000, 0, 10000, 0), BAD_VALUE);
        refused(HubNetworks::new, "setCongestion(-1, 0, -1, 0)", x -> x.setCongestion(-1, 0, -1, 0), BAD_VALUE);
    }

    private static void stepsInOrder() {
        says("S1 is not greater than S2");
        int[] equal = {0, 1, 500, 9998, 9999};
        for (int step : equal) {
            recorded(HubNetworks::new, "setCongestion() with equal steps " + step,
                x -> x.setCongestion(step, 1, step, 2), 9999);
            HubNetworks x = new HubNetworks();
            x.setCongestion(step, 1, step, 2);
            due("digest() of equal steps", x.digest(), digestOf(new int[] {100, 50, 100, 0, step, 1, step, 2}));
            due("setCongestion() after " + step, x.setCongestion(0, 0, 9999, 0), step);
        }
        for (int step : new int[] {1, 2, 500, 9999}) {
            refused(HubNetworks::new, "setCongestion() with S1 one greater", x -> x.setCongestion(step, 1, step - 1, 2),
                BAD_VALUE);
            recorded(HubNetworks::new, "setCongestion() with S1 one less", x -> x.setCongestion(step - 1, 1, step, 2),
                9999);
        }
    }

    /** A node that is not there is BAD_INDEX, of no node, of one, and of eight that are all hubs. */
    private static void node(String call, Argument argument) {
        outside(HubNetworks::new, call, 0, -1, argument, BAD_INDEX);
        outside(RangesTest::oneHub, call, 0, 0, argument, BAD_INDEX);
        outside(Checks::eightHubs, call, 0, 7, argument, BAD_INDEX);
        // Numbers that a shift or an index would bring back to the nodes.
        for (int value : new int[] {16, 31, 32, 33, 64, 256, -8, -32}) {
            refused(Checks::eightHubs, call.replace("?", String.valueOf(value)), x -> argument.in(x, value), BAD_INDEX);
        }
    }

    private static HubNetworks oneHub() {
        HubNetworks x = one();
        x.setHub(0, true);
        return x;
    }

    private static void nodeNumbers() {
        says("BAD_INDEX: there is no such node; the nodes are numbered from 0");
        node("setFlow(?, 0, 1)", (x, v) -> x.setFlow(v, 0, 1));
        node("setFlow(0, ?, 1)", (x, v) -> x.setFlow(0, v, 1));
        node("setNode(?, 1, 1)", (x, v) -> x.setNode(v, 1, 1));
        node("node(?, 0)", (x, v) -> x.node(v, 0));
        node("flow(?, 0)", (x, v) -> x.flow(v, 0));
        node("flow(0, ?)", (x, v) -> x.flow(0, v));
        node("flow(?, ?)", (x, v) -> x.flow(v, v));
        node("distance(?, 0)", (x, v) -> x.distance(v, 0));
        node("distance(0, ?)", (x, v) -> x.distance(0, v));
        node("distance(?, ?)", (x, v) -> x.distance(v, v));
        node("setHub(?, true)", (x, v) -> x.setHub(v, true));
        node("setHub(?, false)", (x, v) -> x.setHub(v, false));
        node("assign(?, 0)", (x, v) -> x.assign(v, 0));
        node("assign(0, ?)", (x, v) -> x.assign(0, v));
        node("hubOf(?)", (x, v) -> x.hubOf(v));
        node("load(?)", (x, v) -> x.load(v));
        node("trunk(?, 0)", (x, v) -> x.trunk(v, 0));
        node("trunk(0, ?)", (x, v) -> x.trunk(0, v));
        node("path(?, 0, 0)", (x, v) -> x.path(v, 0, 0));
        node("path(0, ?, 0)", (x, v) -> x.path(0, v, 0));
        node("change(?, 0)", (x, v) -> x.change(v, 0));
        node("change(0, ?)", (x, v) -> x.change(0, v));
        node("cheapest(?, 0, 0)", (x, v) -> x.cheapest(v, 0, 0));
        node("cheapest(0, ?, 0)", (x, v) -> x.cheapest(0, v, 0));
    }

    private static void lowestAndHighestNode() {
        says("the first and the last of eight nodes");
        recorded(Checks::eight, "setFlow(0, 7, 2)", x -> x.setFlow(0, 7, 2), 1);
        recorded(Checks::eight, "setFlow(7, 0, 2)", x -> x.setFlow(7, 0, 2), 1);
        asks(Checks::eight, "node(0, 0)", x -> x.node(0, 0), 0);
        asks(Checks::eight, "node(7, 0)", x -> x.node(7, 0), 70);
        asks(Checks::eight, "flow(0, 7)", x -> x.flow(0, 7), 1);
        asks(Checks::eight, "flow(7, 0)", x -> x.flow(7, 0), 1);
        asks(Checks::eight, "distance(0, 7)", x -> x.distance(0, 7), 70);
        asks(Checks::eight, "distance(7, 0)", x -> x.distance(7, 0), 70);
        recorded(Checks::eight, "setHub(0, true)", x -> x.setHub(0, true), 0);
        recorded(Checks::eight, "setHub(7, true)", x -> x.setHub(7, true), 0);
        recorded(Checks::eightHubs, "setHub(0, false)", x -> x.setHub(0, false), 1);
        recorded(Checks::eightHubs, "setHub(7, false)", x -> x.setHub(7, false), 1);
        recorded(() -> under(7), "assign(0, 7)", x -> x.assign(0, 7), 7);
        recorded(() -> under(0), "assign(7, 0)", x -> x.assign(7, 0), 0);
        asks(() -> under(7), "hubOf(0)", x -> x.hubOf(0), 7);
        asks(() -> under(0), "hubOf(7)", x -> x.hubOf(7), 0);
        asks(Checks::eightHubs, "load(0)", x -> x.load(0), 7);
        asks(Checks::eightHubs, "load(7)", x -> x.load(7), 7);
        asks(Checks::eightHubs, "trunk(0, 7)", x -> x.trunk(0, 7), 1);
        asks(Checks::eightHubs, "trunk(7, 0)", x -> x.trunk(7, 0), 1);
        asks(Checks::eightHubs, "path(0, 7, 1)", x -> x.path(0, 7, 1), 7);
        asks(Checks::eightHubs, "path(7, 0, 1)", x -> x.path(7, 0, 1), 0);
        asks(() -> under(7), "change(0, 7)", x -> x.change(0, 7), 1000000000);
        asks(() -> under(0), "change(7, 0)", x -> x.change(7, 0), 1000000000);
        asks(() -> under(7), "cheapest(0, 7, 0)", x -> x.cheapest(0, 7, 0), 7000);
        asks(() -> under(0), "cheapest(0, 7, 1)", x -> x.cheapest(0, 7, 1), 0);
        asks(() -> under(7), "cheapest(7, 0, 2)", x -> x.cheapest(7, 0, 2), 7);
    }

    /** Eight nodes, all of them under this hub. */
    private static HubNetworks under(int hub) {
        HubNetworks x = eight();
        x.setHub(hub, true);
        for (int node = 0; node < 8; node++) {
            x.assign(node, hub);
        }
        return x;
    }

    private static void properties() {
        says("node: 0 x, 1 y, 2 opening cost, 3 capacity, 4 flows from it, 5 flows to it; BAD_VALUE otherwise");
        int[] only = {5, 6, 7, 8, 0, 0};
        int[] last = {70, 0, 8, 49, 7, 7};
        for (int what = 0; what <= 5; what++) {
            int asked = what;
            asks(Checks::one, "node(0, " + what + ") of one node", x -> x.node(0, asked), only[what]);
            asks(Checks::eight, "node(7, " + what + ")", x -> x.node(7, asked), last[what]);
        }
        outside(Checks::one, "node(0, ?)", 0, 5, (x, v) -> x.node(0, v), BAD_VALUE);
        outside(Checks::eight, "node(7, ?)", 0, 5, (x, v) -> x.node(7, v), BAD_VALUE);
        HubNetworks full = eight();
        flowsOfAll(full, 100);
        due("node(3, 4) with the greatest flows", full.node(3, 4), 700);
        due("node(3, 5) with the greatest flows", full.node(3, 5), 700);
    }

    private static void costParts() {
        says("cost: what is 0 to 5; BAD_VALUE if it is out of range");
        int[] parts = {54000, 20000, 12500, 21000, 500, 0};
        for (int what = 0; what <= 5; what++) {
            int asked = what;
            asks(Checks::planned, "cost(" + what + ")", x -> x.cost(asked), parts[what]);
        }
        outside(Checks::planned, "cost(?)", 0, 5, (x, v) -> x.cost(v), BAD_VALUE);
    }

    private static void pathIndexes() {
        says("path: index from 0; NONE if the path has not so many nodes; BAD_VALUE if it is negative");
        int[] four = {0, 1, 2, 3};
        for (int index = 0; index < 4; index++) {
            int asked = index;
            asks(Checks::planned, "path(0, 3, " + index + ")", x -> x.path(0, 3, asked), four[index]);
        }
        for (int index : new int[] {4, 5, FAR_ABOVE}) {
            asks(Checks::planned, "path(0, 3, " + index + ") of four nodes", x -> x.path(0, 3, index), NONE);
        }
        for (int index : new int[] {3, 4, FAR_ABOVE}) {
            asks(Checks::planned, "path(0, 2, " + index + ") of three nodes", x -> x.path(0, 2, index), NONE);
        }
        for (int index : new int[] {2, 3, 4, FAR_ABOVE}) {
            asks(Checks::planned, "path(1, 2, " + index + ") of two nodes", x -> x.path(1, 2, index), NONE);
            asks(Checks::planned, "path(0, 1, " + index + ") of two nodes", x -> x.path(0, 1, index), NONE);
            asks(Checks::planned, "path(1, 0, " + index + ") of two nodes", x -> x.path(1, 0, index), NONE);
        }
        for (int index : new int[] {-1, -2, FAR_BELOW}) {
            refused(Checks::planned, "path(0, 3, " + index + ")", x -> x.path(0, 3, index), BAD_VALUE);
        }
        says("path: BAD_VALUE if both are the same");
        refused(Checks::planned, "path(0, 0, 0)", x -> x.path(0, 0, 0), BAD_VALUE);
        refused(Checks::planned, "path(1, 1, 0) of a hub", x -> x.path(1, 1, 0), BAD_VALUE);
        refused(Checks::one, "path(0, 0, 0) of the only node", x -> x.path(0, 0, 0), BAD_VALUE);
    }

    private static void unitParts() {
        says("cheapest: what is 0 to 2; BAD_VALUE if it is out of range");
        int[] parts = {3500, 2, 1};
        for (int what = 0; what <= 2; what++) {
            int asked = what;
            asks(Checks::planned, "cheapest(3, 0, " + what + ")", x -> x.cheapest(3, 0, asked), parts[what]);
        }
        outside(Checks::planned, "cheapest(3, 0, ?)", 0, 2, (x, v) -> x.cheapest(3, 0, v), BAD_VALUE);
    }

    private static void masks() {
        says("least, feasible: the mask is 1 to 2^(number of nodes) - 1");
        asks(Checks::one, "least(1) of one node", x -> x.least(1), 7);
        asks(Checks::one, "feasible(1) of one node", x -> x.feasible(1), 1);
        outside(Checks::one, "least(?) of one node", 1, 1, (x, v) -> x.least(v), BAD_VALUE);
        outside(Checks::one, "feasible(?) of one node", 1, 1, (x, v) -> x.feasible(v), BAD_VALUE);
        asks(Checks::square, "least(1)", x -> x.least(1), 112100);
        asks(Checks::square, "least(15)", x -> x.least(15), 28650);
        asks(Checks::square, "feasible(1)", x -> x.feasible(1), 1);
        asks(Checks::square, "feasible(15)", x -> x.feasible(15), 1);
        outside(Checks::square, "least(?)", 1, 15, (x, v) -> x.least(v), BAD_VALUE);
        outside(Checks::square, "feasible(?)", 1, 15, (x, v) -> x.feasible(v), BAD_VALUE);
        asks(Checks::eight, "least(1) of eight nodes", x -> x.least(1), NONE);
        // Over each gap of 10 d, there and back, go 2 * (8 - d) units at the trunk factor; 168 * 10 * 50 in all.
        asks(Checks::eight, "least(255)", x -> x.least(255), 84000 + 36);
        asks(Checks::eight, "feasible(1) of eight nodes", x -> x.feasible(1), 0);
        asks(Checks::eight, "feasible(255)", x -> x.feasible(255), 1);
        outside(Checks::eight, "least(?)", 1, 255, (x, v) -> x.least(v), BAD_VALUE);
        outside(Checks::eight, "feasible(?)", 1, 255, (x, v) -> x.feasible(v), BAD_VALUE);
    }

    private static void masksWithoutNodes() {
        says("least, feasible: without nodes no mask is in the range");
        outside(HubNetworks::new, "least(?)", 1, 0, (x, v) -> x.least(v), BAD_VALUE);
        outside(HubNetworks::new, "feasible(?)", 1, 0, (x, v) -> x.feasible(v), BAD_VALUE);
    }

    private static void counts() {
        says("best, adopt: the count is 1 to 8, or 0 for any number; NONE if there is no plan");
        asks(Checks::eight, "best(8)", x -> x.best(8), 84036);
        recorded(Checks::eight, "adopt(8)", x -> x.adopt(8), 255);
        asks(Checks::eight, "best(0)", x -> x.best(0), 84036);
        recorded(Checks::eight, "adopt(0)", x -> x.adopt(0), 255);
        asks(Checks::eight, "best(1)", x -> x.best(1), NONE);
        recordedOnly(Checks::eight, "adopt(1)", x -> x.adopt(1), NONE);
        asks(Checks::square, "best(4), as many as there are", x -> x.best(4), 28650);
        asks(Checks::square, "best(5), one more than there are", x -> x.best(5), NONE);
        asks(Checks::square, "best(8), more than there are", x -> x.best(8), NONE);
        recorded(Checks::square, "adopt(4)", x -> x.adopt(4), 15);
        recordedOnly(Checks::square, "adopt(5)", x -> x.adopt(5), NONE);
        recordedOnly(Checks::planned, "adopt(8)", x -> x.adopt(8), NONE);
        asks(Checks::one, "best(0) of one node", x -> x.best(0), 7);
        asks(Checks::one, "best(1) of one node", x -> x.best(1), 7);
        asks(Checks::one, "best(2) of one node", x -> x.best(2), NONE);
        recorded(Checks::one, "adopt(0) of one node", x -> x.adopt(0), 1);
        recorded(Checks::one, "adopt(1) of one node", x -> x.adopt(1), 1);
        recordedOnly(Checks::one, "adopt(2) of one node", x -> x.adopt(2), NONE);
        for (Supplier<HubNetworks> made : List.<Supplier<HubNetworks>>of(Checks::one, Checks::planned, Checks::eight)) {
            outside(made, "best(?)", 0, 8, (x, v) -> x.best(v), BAD_VALUE);
            outside(made, "adopt(?)", 0, 8, (x, v) -> x.adopt(v), BAD_VALUE);
        }
    }

    private static void countsWithoutNodes() {
        says("best, adopt: NONE if there is no plan, as without nodes");
        for (int count = 0; count <= 8; count++) {
            int asked = count;
            asks(HubNetworks::new, "best(" + count + ")", x -> x.best(asked), NONE);
            recordedOnly(HubNetworks::new, "adopt(" + count + ")", x -> x.adopt(asked), NONE);
        }
        outside(HubNetworks::new, "best(?)", 0, 8, (x, v) -> x.best(v), BAD_VALUE);
        outside(HubNetworks::new, "adopt(?)", 0, 8, (x, v) -> x.adopt(v), BAD_VALUE);
    }

    private static void countsOfBound() {
        says("bound: the count is 1 to the number of nodes, or 0 for any number");
        asks(Checks::one, "bound(0) of one node", x -> x.bound(0), 7);
        asks(Checks::one, "bound(1) of one node", x -> x.bound(1), 7);
        outside(Checks::one, "bound(?)", 0, 1, (x, v) -> x.bound(v), BAD_VALUE);
        asks(Checks::square, "bound(1)", x -> x.bound(1), 28000 + 50);
        asks(Checks::square, "bound(4)", x -> x.bound(4), 28000 + 650);
        outside(Checks::square, "bound(?)", 0, 4, (x, v) -> x.bound(v), BAD_VALUE);
        asks(Checks::eight, "bound(0)", x -> x.bound(0), 84000 + 1);
        asks(Checks::eight, "bound(1)", x -> x.bound(1), 84000 + 1);
        asks(Checks::eight, "bound(7)", x -> x.bound(7), 84000 + 28);
        asks(Checks::eight, "bound(8)", x -> x.bound(8), 84000 + 36);
        outside(Checks::eight, "bound(?)", 0, 8, (x, v) -> x.bound(v), BAD_VALUE);
        says("bound: 0 if there are no nodes and count is 0");
        asks(HubNetworks::new, "bound(0) without nodes", x -> x.bound(0), 0);
        outside(HubNetworks::new, "bound(?) without nodes", 0, 0, (x, v) -> x.bound(v), BAD_VALUE);
    }

    private static void codes() {
        says("type: the code is 0 to 255");
        for (int code : new int[] {0, 255}) {
            HubNetworks x = new HubNetworks();
            due("type(" + code + ")", x.type(code), 1);
            due("type(" + code + ") again", x.type(code), 2);
            due("undo() after type()", x.undo(), BAD_STATE);
        }
        outside(HubNetworks::new, "type(?)", 0, 255, (x, v) -> x.type(v), BAD_VALUE);
        outside(() -> typed(one(), "h 0"), "type(?)", 0, 255, (x, v) -> x.type(v), BAD_VALUE);
    }

    private static void indexBeforeValue() {
        says("if several apply, the first one is returned: BAD_INDEX before BAD_VALUE");
        refused(Checks::square, "setFlow(4, 4, 0), the same", x -> x.setFlow(4, 4, 0), BAD_INDEX);
        refused(Checks::square, "setFlow(-1, 0, 101)", x -> x.setFlow(-1, 0, 101), BAD_INDEX);
        refused(Checks::square, "setFlow(0, 4, -1)", x -> x.setFlow(0, 4, -1), BAD_INDEX);
        refused(HubNetworks::new, "setFlow(0, 0, 101) without nodes", x -> x.setFlow(0, 0, 101), BAD_INDEX);
        refused(Checks::square, "setNode(4, -1, 0)", x -> x.setNode(4, -1, 0), BAD_INDEX);
        refused(Checks::square, "setNode(-1, 0, 10000)", x -> x.setNode(-1, 0, 10000), BAD_INDEX);
        refused(Checks::square, "node(4, 6)", x -> x.node(4, 6), BAD_INDEX);
        refused(Checks::square, "node(-1, -1)", x -> x.node(-1, -1), BAD_INDEX);
        refused(Checks::planned, "path(4, 4, 0), the same", x -> x.path(4, 4, 0), BAD_INDEX);
        refused(Checks::planned, "path(4, 0, -1)", x -> x.path(4, 0, -1), BAD_INDEX);
        refused(Checks::planned, "path(0, -1, -1)", x -> x.path(0, -1, -1), BAD_INDEX);
        refused(Checks::planned, "cheapest(4, 0, 3)", x -> x.cheapest(4, 0, 3), BAD_INDEX);
        refused(Checks::planned, "cheapest(0, 4, -1)", x -> x.cheapest(0, 4, -1), BAD_INDEX);
    }

    private static void indexBeforeState() {
        says("if several apply, the first one is returned: BAD_INDEX before BAD_STATE");
        refused(Checks::planned, "assign(1, 4) of a hub", x -> x.assign(1, 4), BAD_INDEX);
        refused(Checks::planned, "assign(4, 3) to no hub", x -> x.assign(4, 3), BAD_INDEX);
        refused(Checks::square, "assign(-1, 0) without hubs", x -> x.assign(-1, 0), BAD_INDEX);
        refused(Checks::square, "load(4) without hubs", x -> x.load(4), BAD_INDEX);
        refused(Checks::square, "trunk(0, 4) without hubs", x -> x.trunk(0, 4), BAD_INDEX);
        refused(Checks::square, "trunk(4, 0) without hubs", x -> x.trunk(4, 0), BAD_INDEX);
        refused(Checks::planned, "trunk(4, 4), the same", x -> x.trunk(4, 4), BAD_INDEX);
        refused(Checks::square, "path(0, 4, 0) without hubs", x -> x.path(0, 4, 0), BAD_INDEX);
        refused(Checks::square, "path(4, 0, 0) without hubs", x -> x.path(4, 0, 0), BAD_INDEX);
        refused(Checks::planned, "change(1, 4) of a hub", x -> x.change(1, 4), BAD_INDEX);
        refused(Checks::planned, "change(4, 3) to no hub", x -> x.change(4, 3), BAD_INDEX);
        refused(Checks::square, "change(0, 4) of an incomplete plan", x -> x.change(0, 4), BAD_INDEX);
        refused(Checks::square, "cheapest(0, 4, 0) without hubs", x -> x.cheapest(0, 4, 0), BAD_INDEX);
        refused(Checks::square, "cheapest(4, 0, 3) without hubs", x -> x.cheapest(4, 0, 3), BAD_INDEX);
    }

    private static void valueBeforeState() {
        says("if several apply, the first one is returned: BAD_VALUE before BAD_STATE");
        refused(Checks::square, "cost(6) of an incomplete plan", x -> x.cost(6), BAD_VALUE);
        refused(Checks::square, "cost(-1) of an incomplete plan", x -> x.cost(-1), BAD_VALUE);
        refused(HubNetworks::new, "cost(6) without nodes", x -> x.cost(6), BAD_VALUE);
        refused(Checks::square, "path(0, 0, 0) of an unassigned node", x -> x.path(0, 0, 0), BAD_VALUE);
        refused(Checks::square, "path(0, 1, -1) of unassigned nodes", x -> x.path(0, 1, -1), BAD_VALUE);
        refused(Checks::square, "cheapest(0, 1, 3) without hubs", x -> x.cheapest(0, 1, 3), BAD_VALUE);
        refused(Checks::square, "cheapest(0, 1, -1) without hubs", x -> x.cheapest(0, 1, -1), BAD_VALUE);
    }

    private static void valueBeforeFull() {
        says("if several apply, the first one is returned: BAD_VALUE before FULL");
        refused(Checks::eight, "addNode(100, 0, 0, 0) as the ninth", x -> x.addNode(100, 0, 0, 0), BAD_VALUE);
        refused(Checks::eight, "addNode(0, -1, 0, 0) as the ninth", x -> x.addNode(0, -1, 0, 0), BAD_VALUE);
        refused(Checks::eight, "addNode(0, 0, 100001, 0) as the ninth", x -> x.addNode(0, 0, 100001, 0), BAD_VALUE);
        refused(Checks::eight, "addNode(0, 0, 0, 10000) as the ninth", x -> x.addNode(0, 0, 0, 10000), BAD_VALUE);
        refused(() -> typed(new HubNetworks(), " ".repeat(120)), "type(256) as byte 121", x -> x.type(256), BAD_VALUE);
        refused(() -> typed(new HubNetworks(), " ".repeat(120)), "type(-1) as byte 121", x -> x.type(-1), BAD_VALUE);
    }

    private static void errorBeforeNone() {
        says("NONE is returned only if no error applies");
        refused(Checks::square, "assign(0, 1) of an unassigned node to no hub", x -> x.assign(0, 1), BAD_STATE);
        refused(Checks::square, "path(0, 1, 4) of unassigned nodes", x -> x.path(0, 1, 4), BAD_STATE);
        refused(RangesTest::halfPlanned, "path(0, 1, 4) of an unassigned node", x -> x.path(0, 1, 4), BAD_STATE);
        refused(RangesTest::halfPlanned, "path(1, 0, 4) to an unassigned node", x -> x.path(1, 0, 4), BAD_STATE);
        refused(Checks::planned, "path(0, 0, 4), the same", x -> x.path(0, 0, 4), BAD_VALUE);
        refused(Checks::square, "settle() without hubs", HubNetworks::settle, BAD_STATE);
        refused(HubNetworks::new, "least(1) without nodes", x -> x.least(1), BAD_VALUE);
        refused(HubNetworks::new, "best(9) without nodes", x -> x.best(9), BAD_VALUE);
        refused(HubNetworks::new, "adopt(9) without nodes", x -> x.adopt(9), BAD_VALUE);
        refused(HubNetworks::new, "hubOf(0) without nodes", x -> x.hubOf(0), BAD_INDEX);
    }

    /** The square with the hub 1 alone, and no other node assigned. */
    private static HubNetworks halfPlanned() {
        HubNetworks x = square();
        x.setHub(1, true);
        return x;
    }
}
