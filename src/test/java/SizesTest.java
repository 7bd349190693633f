/** No node, one, eight and a ninth; no hub and all of them; loads, flows and costs at their limits. */
public final class SizesTest extends Checks {
    public static void main(String[] args) {
        newNetwork();
        atMostEightNodes();
        oneNode();
        distances();
        flowOfSameNode();
        hubsOnTheirOwn();
        capacities();
        trunkMinimum();
        trunkFactors();
        firstStep();
        secondStep();
        equalSteps();
        equalCosts();
        hubIsAssignedToItself();
        noHubAnyMore();
        addedNodeIsUnassigned();
        complete();
        assignStates();
        loads();
        trunks();
        costStates();
        pathLengths();
        changes();
        settles();
        improvesWithoutHubs();
        improvesFarthest();
        improvesNotToNothing();
        improvesWithoutPlans();
        improvesToLowest();
        improvesToLeast();
        improvesToLess();
        cheapestPairs();
        hubBounds();
        smallestOpenings();
        feasiblePlans();
        greatest();
        report("SizesTest");
    }

    /** Nodes at the places (x, 0) with no opening costs and this capacity. */
    private static HubNetworks row(int capacity, int... places) {
        HubNetworks x = new HubNetworks();
        for (int place : places) {
            x.addNode(place, 0, 0, capacity);
        }
        return x;
    }

    private static void hubs(HubNetworks x, int mask) {
        for (int node = 0; node < x.nodes(); node++) {
            x.setHub(node, (mask >> node & 1) != 0);
        }
    }

    private static void assignment(HubNetworks x, int... hubs) {
        for (int node = 0; node < hubs.length; node++) {
            due("hubOf(" + node + ")", x.hubOf(node), hubs[node]);
        }
    }

    private static void newNetwork() {
        says("1 a new object: no nodes, no present hubs, an empty text, an empty history");
        asks(HubNetworks::new, "nodes()", HubNetworks::nodes, 0);
        asks(HubNetworks::new, "hubs()", HubNetworks::hubs, 0);
        asks(HubNetworks::new, "check()", HubNetworks::check, 1);
        asks(HubNetworks::new, "clearText()", HubNetworks::clearText, 0);
        asks(HubNetworks::new, "textFault()", HubNetworks::textFault, 0);
        refused(HubNetworks::new, "undo()", HubNetworks::undo, BAD_STATE);
        refused(HubNetworks::new, "run()", HubNetworks::run, BAD_STATE);
        refused(HubNetworks::new, "cost(0)", x -> x.cost(0), BAD_STATE);
        refused(HubNetworks::new, "settle()", HubNetworks::settle, BAD_STATE);
        refused(HubNetworks::new, "improve()", HubNetworks::improve, BAD_STATE);
        refused(HubNetworks::new, "hubBound()", HubNetworks::hubBound, BAD_STATE);
        asks(HubNetworks::new, "bound(0)", x -> x.bound(0), 0);
    }

    private static void atMostEightNodes() {
        says("there are at most 8 nodes, numbered from 0; FULL if there are 8 nodes");
        HubNetworks x = new HubNetworks();
        for (int node = 0; node < 8; node++) {
            due("nodes()", x.nodes(), node);
            due("node() that is not there yet", x.node(node, 0), BAD_INDEX);
            due("addNode()", x.addNode(node, 0, 0, 0), node);
            due("node() that is there now", x.node(node, 0), node);
        }
        due("nodes()", x.nodes(), 8);
        due("node(8, 0)", x.node(8, 0), BAD_INDEX);
        due("addNode() as the ninth", x.addNode(0, 0, 0, 0), FULL);
        due("nodes() after the ninth", x.nodes(), 8);
        refused(Checks::eight, "addNode(0, 0, 0, 0) as the ninth", y -> y.addNode(0, 0, 0, 0), FULL);
        refused(Checks::eight, "addNode(99, 99, 100000, 9999) as the ninth", y -> y.addNode(99, 99, 100000, 9999),
            FULL);
        x.undo();
        due("nodes() after undo()", x.nodes(), 7);
        due("addNode() as the eighth again", x.addNode(50, 0, 0, 0), 7);
        due("addNode() as the ninth again", x.addNode(50, 0, 0, 0), FULL);
    }

    private static void oneNode() {
        says("one node alone");
        asks(Checks::one, "nodes()", HubNetworks::nodes, 1);
        asks(Checks::one, "check() without hubs", HubNetworks::check, 1);
        asks(Checks::one, "distance(0, 0)", x -> x.distance(0, 0), 0);
        HubNetworks x = one();
        due("setHub(0, true)", x.setHub(0, true), 0);
        due("hubs()", x.hubs(), 1);
        due("check()", x.check(), 0);
        due("load(0)", x.load(0), 0);
        due("trunk(0, 0)", x.trunk(0, 0), BAD_STATE);
        due("assign(0, 0)", x.assign(0, 0), BAD_STATE);
        due("change(0, 0)", x.change(0, 0), BAD_STATE);
        for (int what = 0; what <= 5; what++) {
            due("cost()", x.cost(what), what == 0 || what == 4 ? 7 : 0);
        }
        due("settle()", x.settle(), 7);
        due("improve()", x.improve(), 0);
        due("hubBound()", x.hubBound(), 7);
        due("setHub(0, false)", x.setHub(0, false), 1);
        due("hubs()", x.hubs(), 0);
        due("settle() without a hub", x.settle(), BAD_STATE);
    }

    private static void distances() {
        says("the distance is the sum of the differences (not negative) of their x and of their y");
        HubNetworks x = new HubNetworks();
        x.addNode(0, 0, 0, 0);
        x.addNode(99, 99, 0, 0);
        x.addNode(0, 99, 0, 0);
        x.addNode(99, 0, 0, 0);
        x.addNode(99, 0, 0, 0);
        x.addNode(98, 1, 0, 0);
        int[][] rows = {{0, 198, 99, 99, 99, 99}, {198, 0, 99, 99, 99, 99}, {99, 99, 0, 198, 198, 196},
            {99, 99, 198, 0, 0, 2}, {99, 99, 198, 0, 0, 2}, {99, 99, 196, 2, 2, 0}};
        for (int one = 0; one < 6; one++) {
            for (int other = 0; other < 6; other++) {
                due("distance(" + one + ", " + other + ")", x.distance(one, other), rows[one][other]);
            }
        }
    }

    private static void flowOfSameNode() {
        says("flow: 0 if both are the same");
        HubNetworks x = eight();
        flowsOfAll(x, 100);
        for (int a = 0; a < 8; a++) {
            for (int b = 0; b < 8; b++) {
                due("flow(" + a + ", " + b + ")", x.flow(a, b), a == b ? 0 : 100);
            }
        }
        due("flow(0, 0) of one node", one().flow(0, 0), 0);
    }

    private static void hubsOnTheirOwn() {
        says("a plan has at least one hub, and each hub is assigned to itself");
        HubNetworks x = row(9999, 10, 20);
        x.setFlow(0, 1, 10);
        x.setNode(0, 0, 9);
        asks(() -> lowHub(), "least(3) with too little room for a hub's own flow", y -> y.least(3), NONE);
        asks(() -> lowHub(), "feasible(3) with too little room for a hub's own flow", y -> y.feasible(3), 0);
        due("best(0)", x.best(0), x.least(2));
        due("adopt(0)", x.adopt(0), 2);
        due("adopt(2)", x.adopt(2), NONE);
    }

    private static HubNetworks lowHub() {
        HubNetworks x = row(9999, 10, 20);
        x.setFlow(0, 1, 10);
        x.setNode(0, 0, 9);
        return x;
    }

    /** Two nodes that are present hubs, and a third one under the first; a load of 10 + 1 and of 0. */
    private static HubNetworks loaded(int capacity) {
        HubNetworks x = row(9999, 10, 20, 12);
        x.setFlow(0, 1, 10);
        x.setFlow(2, 1, 1);
        x.setNode(0, 0, capacity);
        x.setNode(1, 0, 0);
        hubs(x, 3);
        x.assign(2, 0);
        return x;
    }

    private static void capacities() {
        says("a plan is feasible if the load of each hub is at most its capacity");
        asks(() -> loaded(11), "check() of a load at the capacity", HubNetworks::check, 0);
        asks(() -> loaded(10), "check() of a load one above it", HubNetworks::check, 2);
        asks(() -> loaded(12), "check() of a load one below it", HubNetworks::check, 0);
        asks(() -> loaded(11), "least(3) at the capacity", x -> x.least(3), 50 * 110 + 100 * 2);
        asks(() -> loaded(10), "least(3) one above it, of two hubs", x -> x.least(3), NONE);
        asks(() -> loaded(11), "feasible(3) at the capacity", x -> x.feasible(3), 1);
        asks(() -> loaded(10), "feasible(3) one above it", x -> x.feasible(3), 0);
        recordedOnly(() -> loaded(11), "settle() at the capacity", HubNetworks::settle, 5700);
        recordedOnly(() -> loaded(10), "settle() one above it", HubNetworks::settle, NONE);
        says("a capacity of 0: the load is at most 0");
        HubNetworks x = row(0, 10, 20);
        due("feasible(1) without flows", x.feasible(1), 1);
        due("best(0) without flows", x.best(0), 0);
        x.setHub(0, true);
        x.assign(1, 0);
        due("check() without flows", x.check(), 0);
        x.setFlow(1, 0, 1);
        due("check() with a load of 1", x.check(), 2);
        due("feasible(1) with a load of 1", x.feasible(1), 0);
        due("feasible(3) with a load of 1", x.feasible(3), 0);
        due("best(0) with a load of 1", x.best(0), NONE);
        x.setNode(0, 0, 1);
        due("check() with a capacity of 1", x.check(), 0);
        due("best(0) with a capacity of 1", x.best(0), 1000);
        says("the greatest load is below the greatest capacity");
        HubNetworks y = eight();
        flowsOfAll(y, 100);
        y.setNode(0, 0, 5600);
        due("feasible(1) of a load of 5600", y.feasible(1), 1);
        y.setNode(0, 0, 5599);
        due("feasible(1) with a capacity of 5599", y.feasible(1), 0);
        y.setNode(0, 0, 9999);
        due("feasible(1) with a capacity of 9999", y.feasible(1), 1);
    }

    /** Two hubs, 10 apart, with a flow of 7 from the first and of 3 from the second. */
    private static HubNetworks twoTrunks(int factor, int minimum) {
        HubNetworks x = row(9999, 10, 20);
        x.setFlow(0, 1, 7);
        x.setFlow(1, 0, 3);
        hubs(x, 3);
        x.setFactors(100, factor, 100, minimum);
        return x;
    }

    private static void trunkMinimum() {
        says("F is T if the trunk flow is at least the trunk minimum, and otherwise 100");
        int[][] rows = {{0, 5000}, {2, 5000}, {3, 5000}, {4, 3500 + 3000}, {6, 6500}, {7, 6500}, {8, 10000},
            {10, 10000}, {9999, 10000}};
        for (int[] row : rows) {
            asks(() -> twoTrunks(50, row[0]), "cost(2) with the minimum " + row[0], x -> x.cost(2), row[1]);
            asks(() -> twoTrunks(50, row[0]), "least(3) with the minimum " + row[0], x -> x.least(3), row[1]);
        }
        says("F is 100 below the minimum: a change that takes a trunk below it or to it");
        HubNetworks x = row(9999, 0, 10, 0);
        x.setFlow(0, 1, 4);
        x.setFlow(2, 1, 3);
        hubs(x, 3);
        x.assign(2, 0);
        x.setFactors(100, 50, 100, 7);
        due("cost(2) at the minimum", x.cost(2), 50 * 70);
        due("change(2, 1) below it", x.change(2, 1), 1000000000 - 50 * 70 + 100 * 40 + 100 * 30);
        x.assign(2, 1);
        due("cost(2) below it", x.cost(2), 4000);
        due("change(2, 0) to it", x.change(2, 0), 1000000000 - 7000 + 3500);
        says("F is 100 for a trunk flow of 1 below a minimum of 2");
        HubNetworks thin = row(9999, 10, 20);
        thin.setFlow(0, 1, 1);
        hubs(thin, 3);
        thin.setFactors(100, 50, 100, 2);
        due("cost(2) below 2", thin.cost(2), 1000);
        due("least(3) below 2", thin.least(3), 1000);
        thin.setFactors(100, 50, 100, 1);
        due("cost(2) at 1", thin.cost(2), 500);
        due("least(3) at 1", thin.least(3), 500);
        says("trunks only where k and m are different");
        HubNetworks y = row(9999, 0, 10, 0);
        y.setFlow(0, 1, 4);
        y.setFlow(2, 1, 3);
        y.setHub(1, true);
        y.assign(0, 1);
        y.assign(2, 1);
        y.setFactors(100, 50, 100, 9999);
        due("cost(2) of one hub", y.cost(2), 0);
        due("cost(0) of one hub", y.cost(0), 7000);
    }

    private static void trunkFactors() {
        says("T is 0 to 100");
        asks(() -> twoTrunks(0, 0), "cost(2) with T 0", x -> x.cost(2), 0);
        asks(() -> twoTrunks(0, 7), "cost(2) with T 0 and one trunk below the minimum", x -> x.cost(2), 3000);
        asks(() -> twoTrunks(1, 0), "cost(2) with T 1", x -> x.cost(2), 100);
        asks(() -> twoTrunks(99, 4), "cost(2) with T 99", x -> x.cost(2), 6930 + 3000);
        asks(() -> twoTrunks(100, 0), "cost(2) with T 100", x -> x.cost(2), 10000);
        asks(() -> twoTrunks(100, 4), "cost(2) with T 100 and a minimum", x -> x.cost(2), 10000);
        asks(() -> twoTrunks(0, 7), "least(3) with T 0", x -> x.least(3), 3000);
        asks(() -> twoTrunks(100, 4), "least(3) with T 100", x -> x.least(3), 10000);
    }

    /** One hub with a load of 20 and one without any; the congestion alone costs. */
    private static HubNetworks congested(int first, int firstRate, int second, int secondRate) {
        HubNetworks x = row(9999, 10, 10, 10);
        x.setFlow(0, 1, 15);
        x.setFlow(2, 1, 5);
        hubs(x, 3);
        x.assign(2, 0);
        x.setCongestion(first, firstRate, second, secondRate);
        return x;
    }

    private static void congestionIs(int first, int firstRate, int second, int secondRate, int want) {
        String steps = first + ", " + firstRate + ", " + second + ", " + secondRate;
        asks(() -> congested(first, firstRate, second, secondRate), "cost(5) with " + steps, x -> x.cost(5), want);
        asks(() -> congested(first, firstRate, second, secondRate), "cost(0) with " + steps, x -> x.cost(0), want);
    }

    private static void firstStep() {
        says("if L is greater than S1, (L - S1) * R1");
        congestionIs(21, 10, 9999, 1000, 0);
        congestionIs(20, 10, 9999, 1000, 0);
        congestionIs(19, 10, 9999, 1000, 10);
        congestionIs(18, 10, 9999, 1000, 20);
        congestionIs(0, 10, 9999, 1000, 200);
        congestionIs(0, 1000, 9999, 1000, 20000);
        congestionIs(0, 1, 9999, 1000, 20);
        congestionIs(0, 0, 9999, 1000, 0);
    }

    private static void secondStep() {
        says("and if L is greater than S2, (L - S2) * R2 in addition");
        congestionIs(10, 10, 21, 1000, 100);
        congestionIs(10, 10, 20, 1000, 100);
        congestionIs(10, 10, 19, 1000, 1100);
        congestionIs(10, 10, 18, 1000, 2100);
        congestionIs(10, 10, 18, 1, 102);
        congestionIs(10, 10, 18, 0, 100);
        congestionIs(10, 0, 18, 3, 6);
    }

    private static void equalSteps() {
        says("S1 can be S2");
        congestionIs(20, 10, 20, 100, 0);
        congestionIs(19, 10, 19, 100, 110);
        congestionIs(0, 10, 0, 100, 2200);
        congestionIs(0, 1000, 0, 1000, 40000);
        congestionIs(9999, 1000, 9999, 1000, 0);
        says("congestion in the best plan: it spreads the load where that is cheaper");
        HubNetworks x = congested(15, 1, 15, 0);
        due("least(3)", x.least(3), 0);
        due("least(1)", x.least(1), 5);
        due("settle()", x.settle(), 0);
        assignment(x, 0, 1, 1);
        x.setCongestion(20, 1, 20, 0);
        due("settle() at the step", x.settle(), 0);
        assignment(x, 0, 1, 0);
    }

    private static void equalCosts() {
        says("if the costs are equal, if the mask of its hubs is less");
        HubNetworks x = row(9999, 5, 5, 5, 5, 5, 5, 5, 5);
        due("adopt(0) of 255 equal masks", x.adopt(0), 1);
        for (int count = 1; count <= 8; count++) {
            due("adopt(" + count + ")", x.adopt(count), (1 << count) - 1);
        }
        x.setNode(0, 1, 9999);
        due("adopt(0) with the least mask one dearer", x.adopt(0), 2);
        due("adopt(7)", x.adopt(7), 254);
        says("the mask decides, not the number of hubs");
        HubNetworks two = row(0, 5, 5, 5);
        two.setFlow(0, 1, 1);
        two.setFlow(1, 0, 1);
        two.setNode(0, 0, 1);
        two.setNode(1, 0, 1);
        two.setNode(2, 0, 2);
        due("feasible(1)", two.feasible(1), 0);
        due("feasible(2)", two.feasible(2), 0);
        due("adopt(0) of the masks 3 and 4", two.adopt(0), 3);
        says("the mask decides before the assignment");
        two.setNode(1, 0, 2);
        due("adopt(0) of the masks 2 (1, 1, 1) and 3 (0, 1, 0)", two.adopt(0), 2);
        assignment(two, 1, 1, 1);
        says("if these are equal, too, if its assignment is lexicographically less");
        hubs(x, 0b10100100);
        due("settle() of equal assignments", x.settle(), 0);
        assignment(x, 2, 2, 2, 2, 2, 5, 2, 7);
        x.setFlow(0, 1, 1);
        x.setFlow(6, 1, 1);
        x.setNode(2, 0, 1);
        due("settle() with room in 2 for one of two", x.settle(), 0);
        assignment(x, 2, 2, 2, 2, 2, 5, 5, 7);
        x.setNode(2, 0, 0);
        x.setNode(5, 0, 1);
        due("settle() with room in 2 for none", x.settle(), 0);
        assignment(x, 5, 2, 2, 2, 2, 5, 7, 7);
        says("better is first of all what costs less");
        HubNetworks y = row(9999, 5, 5, 5);
        y.setNode(0, 1, 9999);
        y.setNode(1, 1, 9999);
        due("adopt(0) of the greatest mask of one hub", y.adopt(0), 4);
        y.addNode(6, 0, 1, 9999);
        y.setFlow(3, 0, 1);
        y.setFactors(100, 50, 200, 0);
        hubs(y, 12);
        due("settle() with a cheaper hub", y.settle(), 51);
        assignment(y, 2, 2, 2, 3);
    }

    private static void hubIsAssignedToItself() {
        says("a node that becomes a present hub is assigned to itself");
        HubNetworks x = eight();
        for (int node = 0; node < 8; node++) {
            due("setHub(" + node + ", true)", x.setHub(node, true), 0);
            due("hubOf(" + node + ")", x.hubOf(node), node);
            due("hubs()", x.hubs(), (2 << node) - 1);
        }
        due("hubs() if all are", x.hubs(), 255);
        HubNetworks y = planned();
        due("setHub(0, true) of an assigned node", y.setHub(0, true), 0);
        assignment(y, 0, 1, 2, 2);
        due("setHub(0, true) again", y.setHub(0, true), 1);
        assignment(y, 0, 1, 2, 2);
    }

    private static void noHubAnyMore() {
        says("when a node is no present hub any more, it and all nodes that were assigned to it are unassigned");
        HubNetworks x = planned();
        due("setHub(1, false)", x.setHub(1, false), 1);
        assignment(x, NONE, NONE, 2, 2);
        due("setHub(2, false) of the last hub", x.setHub(2, false), 1);
        assignment(x, NONE, NONE, NONE, NONE);
        due("hubs()", x.hubs(), 0);
        due("setHub(2, false) of no hub", x.setHub(2, false), 0);
        HubNetworks y = eightHubs();
        for (int node = 7; node >= 0; node--) {
            due("setHub(" + node + ", false)", y.setHub(node, false), 1);
            due("hubOf(" + node + ")", y.hubOf(node), NONE);
            due("hubs()", y.hubs(), (1 << node) - 1);
        }
        says("setHub(v, false) of a node that is no hub changes nothing");
        recordedOnly(Checks::planned, "setHub(0, false)", z -> z.setHub(0, false), 0);
        recordedOnly(Checks::square, "setHub(0, false) without hubs", z -> z.setHub(0, false), 0);
    }

    private static void addedNodeIsUnassigned() {
        says("a node that is added is unassigned");
        HubNetworks x = planned();
        due("addNode()", x.addNode(1, 1, 1, 1), 4);
        assignment(x, 1, 1, 2, 2, NONE);
        x.assign(4, 2);
        x.setFlow(4, 0, 9);
        x.setFlow(0, 4, 8);
        x.undo();
        x.undo();
        x.undo();
        x.undo();
        due("addNode() where an assigned node was", x.addNode(2, 2, 2, 2), 4);
        assignment(x, 1, 1, 2, 2, NONE);
        due("flow(4, 0) of the new node", x.flow(4, 0), 0);
        due("flow(0, 4) to the new node", x.flow(0, 4), 0);
        HubNetworks y = row(1, 1);
        y.addNode(2, 2, 2, 2);
        y.setHub(1, true);
        y.undo();
        y.undo();
        y.addNode(3, 3, 3, 3);
        due("hubs() after a hub was undone", y.hubs(), 0);
        due("hubOf(1) where a hub was", y.hubOf(1), NONE);
    }

    private static void complete() {
        says("the present plan is complete if there is a present hub and each node is assigned");
        asks(HubNetworks::new, "check() without nodes", HubNetworks::check, 1);
        asks(Checks::one, "check() of one node", HubNetworks::check, 1);
        asks(Checks::eight, "check() of eight nodes without hubs", HubNetworks::check, 1);
        asks(Checks::eightHubs, "check() if all nodes are hubs", HubNetworks::check, 0);
        HubNetworks x = eight();
        x.setNode(3, 0, 56);
        x.setHub(3, true);
        for (int node : new int[] {7, 1, 2, 0, 4, 6, 5}) {
            due("check() with nodes unassigned", x.check(), 1);
            due("cost(0) with nodes unassigned", x.cost(0), BAD_STATE);
            due("assign(" + node + ", 3)", x.assign(node, 3), NONE);
        }
        due("check() with all assigned", x.check(), 0);
        due("cost(4) with all assigned", x.cost(4), 0);
        x.setHub(0, true);
        due("check() with one more hub", x.check(), 0);
        x.setHub(0, false);
        due("check() with the node 0 unassigned", x.check(), 1);
        says("check: 1 also if a load is above its capacity, as long as the plan is not complete");
        x.setNode(3, 0, 0);
        due("check()", x.check(), 1);
        x.assign(0, 3);
        due("check() of the complete one", x.check(), 2);
    }

    private static void assignStates() {
        says("assign: BAD_STATE if node is a present hub, or hub is not");
        refused(Checks::planned, "assign(1, 2)", x -> x.assign(1, 2), BAD_STATE);
        refused(Checks::planned, "assign(1, 1)", x -> x.assign(1, 1), BAD_STATE);
        refused(Checks::planned, "assign(0, 3)", x -> x.assign(0, 3), BAD_STATE);
        refused(Checks::planned, "assign(0, 0)", x -> x.assign(0, 0), BAD_STATE);
        refused(Checks::planned, "assign(1, 0)", x -> x.assign(1, 0), BAD_STATE);
        refused(Checks::square, "assign(0, 1) without hubs", x -> x.assign(0, 1), BAD_STATE);
        refused(Checks::eightHubs, "assign(0, 7) if all are hubs", x -> x.assign(0, 7), BAD_STATE);
        says("assign: the hub before, NONE if it was unassigned");
        recordedOnly(Checks::planned, "assign(0, 1) once more", x -> x.assign(0, 1), 1);
        recorded(Checks::planned, "assign(0, 2)", x -> x.assign(0, 2), 1);
        recorded(() -> without(3), "assign(3, 1) of an unassigned node", x -> x.assign(3, 1), NONE);
        HubNetworks x = without(3);
        due("assign(3, 1)", x.assign(3, 1), NONE);
        due("hubOf(3)", x.hubOf(3), 1);
        due("assign(3, 2)", x.assign(3, 2), 1);
        due("hubOf(3)", x.hubOf(3), 2);
    }

    /** The planned square with a node that is no longer assigned. */
    private static HubNetworks without(int node) {
        HubNetworks x = planned();
        x.setHub(node, true);
        x.setHub(node, false);
        return x;
    }

    private static void loads() {
        says("load: the sum of the flows from all nodes that are assigned to it; BAD_STATE if it is no present hub");
        refused(Checks::planned, "load(0)", x -> x.load(0), BAD_STATE);
        refused(Checks::square, "load(1) without hubs", x -> x.load(1), BAD_STATE);
        refused(Checks::one, "load(0) of one node", x -> x.load(0), BAD_STATE);
        asks(Checks::planned, "load(1)", x -> x.load(1), 30);
        asks(() -> without(0), "load(1) without the node 0", x -> x.load(1), 20);
        asks(() -> without(3), "load(1) with flows to an unassigned node", x -> x.load(1), 30);
        asks(() -> without(3), "load(2) with flows to an unassigned node", x -> x.load(2), 8);
        asks(() -> loaded(0), "load(1) of no flow", x -> x.load(1), 0);
        HubNetworks x = eight();
        flowsOfAll(x, 100);
        x.setHub(7, true);
        due("load(7) of the hub alone", x.load(7), 700);
        for (int node = 0; node < 7; node++) {
            x.assign(node, 7);
        }
        due("load(7) of all there is", x.load(7), 5600);
    }

    private static void trunks() {
        says("trunk: BAD_STATE if one of them is no present hub, or both are the same");
        refused(Checks::planned, "trunk(1, 1)", x -> x.trunk(1, 1), BAD_STATE);
        refused(Checks::planned, "trunk(0, 0) of no hub", x -> x.trunk(0, 0), BAD_STATE);
        refused(Checks::planned, "trunk(0, 1)", x -> x.trunk(0, 1), BAD_STATE);
        refused(Checks::planned, "trunk(1, 0)", x -> x.trunk(1, 0), BAD_STATE);
        refused(Checks::planned, "trunk(0, 3)", x -> x.trunk(0, 3), BAD_STATE);
        says("trunk: from all nodes of the one to all nodes of the other one");
        asks(Checks::planned, "trunk(1, 2)", x -> x.trunk(1, 2), 20);
        asks(Checks::planned, "trunk(2, 1)", x -> x.trunk(2, 1), 5);
        asks(() -> without(0), "trunk(2, 1) without the node 0", x -> x.trunk(2, 1), 0);
        asks(() -> without(3), "trunk(2, 1) without the node 3", x -> x.trunk(2, 1), 0);
        asks(() -> without(3), "trunk(1, 2) without the node 3", x -> x.trunk(1, 2), 20);
        HubNetworks x = eight();
        flowsOfAll(x, 100);
        hubs(x, 129);
        due("trunk(0, 7) of the hubs alone", x.trunk(0, 7), 100);
        for (int node = 1; node < 7; node++) {
            x.assign(node, node < 4 ? 0 : 7);
        }
        due("trunk(0, 7) of all there is", x.trunk(0, 7), 1600);
        due("trunk(7, 0) of all there is", x.trunk(7, 0), 1600);
    }

    private static void costStates() {
        says("cost: BAD_STATE if the present plan is not complete");
        for (int what = 0; what <= 5; what++) {
            int asked = what;
            refused(HubNetworks::new, "cost(" + what + ") without nodes", x -> x.cost(asked), BAD_STATE);
            refused(Checks::square, "cost(" + what + ") without hubs", x -> x.cost(asked), BAD_STATE);
            refused(() -> without(0), "cost(" + what + ") with the node 0 unassigned", x -> x.cost(asked), BAD_STATE);
            refused(() -> without(3), "cost(" + what + ") with the node 3 unassigned", x -> x.cost(asked), BAD_STATE);
            asks(Checks::eightHubs, "cost(" + what + ") if all are hubs", x -> x.cost(asked),
                new int[] {84036, 0, 84000, 0, 36, 0}[asked]);
        }
        says("cost: also if the plan is not feasible");
        asks(() -> loaded(0), "cost(0)", x -> x.cost(0), 5700);
        asks(() -> loaded(0), "check()", HubNetworks::check, 2);
    }

    private static void pathIs(HubNetworks x, int from, int to, int... nodes) {
        for (int index = 0; index < 6; index++) {
            due("path(" + from + ", " + to + ", " + index + ")", x.path(from, to, index),
                index < nodes.length ? nodes[index] : NONE);
        }
    }

    private static void pathLengths() {
        says("path: the nodes a, hub of a, hub of b, b, without those that are equal to the one before");
        HubNetworks x = row(9999, 1, 2, 3, 4, 5, 6);
        hubs(x, 0b110);
        x.assign(0, 1);
        x.assign(3, 2);
        x.assign(4, 1);
        pathIs(x, 0, 3, 0, 1, 2, 3);
        pathIs(x, 3, 0, 3, 2, 1, 0);
        pathIs(x, 0, 4, 0, 1, 4);
        pathIs(x, 0, 2, 0, 1, 2);
        pathIs(x, 2, 0, 2, 1, 0);
        pathIs(x, 1, 2, 1, 2);
        pathIs(x, 1, 0, 1, 0);
        pathIs(x, 0, 1, 0, 1);
        says("path: BAD_STATE if one of them is unassigned");
        due("path(5, 0, 0)", x.path(5, 0, 0), BAD_STATE);
        due("path(0, 5, 0)", x.path(0, 5, 0), BAD_STATE);
        due("path(1, 5, 0)", x.path(1, 5, 0), BAD_STATE);
        due("path(5, 1, 4)", x.path(5, 1, 4), BAD_STATE);
        refused(Checks::square, "path(0, 1, 0) without hubs", y -> y.path(0, 1, 0), BAD_STATE);
        says("path: also if other nodes are unassigned");
        asks(() -> without(3), "path(0, 2, 1)", y -> y.path(0, 2, 1), 1);
    }

    private static void changes() {
        says("change: BAD_STATE if node is a present hub, or hub is not, or the present plan is not complete");
        refused(Checks::planned, "change(1, 2)", x -> x.change(1, 2), BAD_STATE);
        refused(Checks::planned, "change(1, 1)", x -> x.change(1, 1), BAD_STATE);
        refused(Checks::planned, "change(0, 3)", x -> x.change(0, 3), BAD_STATE);
        refused(Checks::planned, "change(0, 0)", x -> x.change(0, 0), BAD_STATE);
        refused(() -> without(0), "change(0, 1) of an unassigned node", x -> x.change(0, 1), BAD_STATE);
        refused(() -> without(3), "change(0, 2) with another node unassigned", x -> x.change(0, 2), BAD_STATE);
        refused(Checks::square, "change(0, 1) without hubs", x -> x.change(0, 1), BAD_STATE);
        refused(Checks::eightHubs, "change(0, 7) if all are hubs", x -> x.change(0, 7), BAD_STATE);
        says("change: the change (which can be negative), plus 1000000000");
        asks(Checks::planned, "change(0, 1) to the same hub", x -> x.change(0, 1), 1000000000);
        asks(Checks::planned, "change(0, 2)", x -> x.change(0, 2), 1000017500);
        asks(SizesTest::afterChange, "change(0, 1) back", x -> x.change(0, 1), 1000000000 - 17500);
        says("change: the greatest changes there are");
        HubNetworks x = new HubNetworks();
        x.addNode(0, 0, 0, 0);
        x.addNode(99, 99, 0, 0);
        for (int i = 2; i < 8; i++) {
            x.addNode(0, 0, 0, 0);
        }
        flowsOfAll(x, 100);
        x.setFactors(300, 0, 300, 0);
        hubs(x, 3);
        for (int node = 2; node < 8; node++) {
            x.assign(node, 0);
        }
        due("change(2, 1) upwards", x.change(2, 1), 1000000000 + 1400 * 198 * 300);
        x.assign(2, 1);
        due("change(2, 0) downwards", x.change(2, 0), 1000000000 - 1400 * 198 * 300);
    }

    private static HubNetworks afterChange() {
        HubNetworks x = planned();
        x.assign(0, 2);
        return x;
    }

    private static void settles() {
        says("settle: BAD_STATE if there is no present hub");
        refused(HubNetworks::new, "settle() without nodes", HubNetworks::settle, BAD_STATE);
        refused(Checks::one, "settle() of one node", HubNetworks::settle, BAD_STATE);
        refused(Checks::eight, "settle() of eight nodes", HubNetworks::settle, BAD_STATE);
        says("settle: if all nodes are hubs");
        recordedOnly(Checks::eightHubs, "settle()", HubNetworks::settle, 84036);
        says("settle: NONE if there is none (then nothing changes); recorded also then");
        recordedOnly(() -> loaded(10), "settle() of a complete plan", HubNetworks::settle, NONE);
        recordedOnly(SizesTest::hubWithoutRoom, "settle() of an incomplete plan", HubNetworks::settle, NONE);
    }

    /** The square with the hub 1 alone, which has no room for all; nothing else is assigned. */
    private static HubNetworks hubWithoutRoom() {
        HubNetworks x = square();
        x.setNode(1, 200, 42);
        x.setHub(1, true);
        return x;
    }

    private static void improvesWithoutHubs() {
        says("improve: BAD_STATE if there is no present hub");
        refused(HubNetworks::new, "improve() without nodes", HubNetworks::improve, BAD_STATE);
        refused(Checks::one, "improve() of one node", HubNetworks::improve, BAD_STATE);
        refused(Checks::eight, "improve() of eight nodes", HubNetworks::improve, BAD_STATE);
    }

    private static void improvesFarthest() {
        says("improve: step by step from one hub to all, and from all to one");
        HubNetworks x = eight();
        for (int node = 0; node < 8; node++) {
            x.setNode(node, 0, 9999);
        }
        x.setHub(3, true);
        due("improve() to all hubs", x.improve(), 7);
        due("hubs()", x.hubs(), 255);
        due("cost(0)", x.cost(0), 84000);
        due("improve() with all hubs", x.improve(), 0);
        for (int node = 0; node < 8; node++) {
            x.setNode(node, 100000 - node, 9999);
        }
        int[] due = stepByStep(x, 255);
        due("steps to one hub", due[0], 7);
        due("improve() to one hub", x.improve(), 7);
        due("hubs()", x.hubs(), due[1]);
        due("check()", x.check(), 0);
    }

    /** The steps from these hubs, and the hubs where they end, by the cost of each set. */
    private static int[] stepByStep(HubNetworks x, int start) {
        int mask = start;
        for (int steps = 0; ; steps++) {
            int least = FAR_ABOVE;
            int next = 0;
            for (int node = 0; node < x.nodes(); node++) {
                int cost = (mask ^ 1 << node) == 0 ? NONE : x.least(mask ^ 1 << node);
                if (cost != NONE && cost < least) {
                    least = cost;
                    next = mask ^ 1 << node;
                }
            }
            int present = x.least(mask);
            if (next == 0 || present != NONE && present <= least) {
                return new int[] {steps, mask};
            }
            mask = next;
        }
    }

    private static void improvesNotToNothing() {
        says("improve: a set must have a hub");
        HubNetworks x = one();
        x.setHub(0, true);
        due("improve() of one node", x.improve(), 0);
        due("hubs()", x.hubs(), 1);
        HubNetworks y = row(9999, 10, 10);
        y.setNode(0, 100000, 9999);
        y.setNode(1, 100000, 9999);
        y.setHub(1, true);
        due("improve() of one hub of two", y.improve(), 0);
        due("hubs()", y.hubs(), 2);
    }

    private static void improvesWithoutPlans() {
        says("improve: if there is no plan for the present hubs and for none of the sets, that is the end");
        recordedOnly(SizesTest::nowhere, "improve()", HubNetworks::improve, 0);
        says("improve: if there is no plan for the present hubs, they become the set with the least cost");
        HubNetworks x = hubWithoutRoom();
        due("improve()", x.improve(), 3);
        due("hubs()", x.hubs(), 15);
        HubNetworks y = nowhere();
        hubs(y, 2);
        y.setNode(1, 100000, 0);
        y.setNode(0, 100000, 1);
        due("improve() to dear hubs", y.improve(), 2);
        due("hubs()", y.hubs(), 1);
        says("improve: sets for which there is no plan are left out");
        HubNetworks z = row(9999, 10, 30, 20);
        z.setFlow(0, 1, 10);
        z.setHub(0, true);
        z.setNode(1, 0, 0);
        z.setNode(2, 1, 9);
        due("improve()", z.improve(), 1);
        due("hubs()", z.hubs(), 3);
        HubNetworks w = row(9999, 10, 30, 20);
        w.setFlow(1, 0, 10);
        w.setHub(0, true);
        w.setNode(1, 0, 9);
        w.setNode(2, 1, 9);
        due("improve() past a set without a plan", w.improve(), 0);
        due("least(3)", w.least(3), NONE);
    }

    /** Two nodes with flows, neither with room for its own; the first one is a hub. */
    private static HubNetworks nowhere() {
        HubNetworks x = row(0, 10, 10);
        x.setFlow(0, 1, 1);
        x.setHub(0, true);
        return x;
    }

    private static void improvesToLowest() {
        says("improve: of several sets, the one for which the node that is added or removed is the lowest");
        HubNetworks x = row(9999, 10, 10, 10);
        for (int node = 0; node < 3; node++) {
            x.setNode(node, 5, 9999);
        }
        hubs(x, 7);
        due("improve() by removing", x.improve(), 2);
        due("hubs()", x.hubs(), 4);
        HubNetworks y = row(9999, 50, 40, 60);
        y.setFlow(0, 1, 10);
        y.setFlow(0, 2, 10);
        y.setFactors(100, 50, 100, 11);
        y.setFlow(1, 2, 1);
        y.setFlow(2, 1, 1);
        y.setHub(0, true);
        y.setNode(1, 1, 9999);
        y.setNode(2, 1, 9999);
        due("cost of the lower set", y.least(3), y.least(5));
        due("check() before", y.check(), 1);
        // Both trunks from 0 would come under the minimum.
        due("least(7) is dearer", y.least(7) > y.least(3) ? 1 : 0, 1);
        due("improve() by adding", y.improve(), 1);
        due("hubs()", y.hubs(), 3);
    }

    private static void improvesToLeast() {
        says("improve: the present hubs become the set with the least cost");
        HubNetworks x = row(9999, 0, 10, 20);
        x.setFlow(0, 2, 10);
        x.setNode(1, 1, 9999);
        x.setHub(0, true);
        due("least(1)", x.least(1), 20000);
        due("least(3) is less", x.least(3), 15001);
        due("least(5) is the least", x.least(5), 10000);
        due("improve()", x.improve(), 1);
        due("hubs()", x.hubs(), 5);
    }

    private static void improvesToLess() {
        says("improve: the least of these costs is less than that for the present hubs");
        HubNetworks x = row(9999, 10, 20);
        x.setFlow(0, 1, 1);
        x.setHub(0, true);
        x.setNode(1, 500, 9999);
        due("least(1)", x.least(1), 1000);
        due("least(3)", x.least(3), 1000);
        due("improve() at the same cost", x.improve(), 0);
        due("hubs()", x.hubs(), 1);
        x.setNode(1, 499, 9999);
        due("least(3)", x.least(3), 999);
        x.setNode(0, 1, 9999);
        due("improve() at one less", x.improve(), 1);
        due("hubs()", x.hubs(), 3);
        says("improve: then the best plan with the present hubs becomes the present plan");
        HubNetworks y = planned();
        y.setNode(0, 100000, 500);
        y.setNode(3, 100000, 500);
        y.assign(0, 2);
        y.assign(3, 1);
        due("improve() without a step", y.improve(), 0);
        assignment(y, 1, 1, 2, 2);
    }

    private static void cheapestPairs() {
        says("cheapest: BAD_STATE if there is no present hub");
        refused(Checks::square, "cheapest(0, 1, 0)", x -> x.cheapest(0, 1, 0), BAD_STATE);
        refused(Checks::square, "cheapest(0, 0, 2)", x -> x.cheapest(0, 0, 2), BAD_STATE);
        refused(Checks::one, "cheapest(0, 0, 0) of one node", x -> x.cheapest(0, 0, 0), BAD_STATE);
        says("cheapest: k and m can be the same");
        HubNetworks x = row(9999, 0, 99, 10, 20);
        hubs(x, 2);
        due("cheapest(0, 3, 0) over one hub", x.cheapest(0, 3, 0), 9900 + 7900);
        due("cheapest(0, 3, 1)", x.cheapest(0, 3, 1), 1);
        due("cheapest(0, 3, 2)", x.cheapest(0, 3, 2), 1);
        hubs(x, 14);
        due("cheapest(0, 3, 0) over three hubs", x.cheapest(0, 3, 0), 1000 + 500);
        due("cheapest(0, 3, 1)", x.cheapest(0, 3, 1), 2);
        due("cheapest(0, 3, 2)", x.cheapest(0, 3, 2), 3);
        due("cheapest(3, 3, 0) of a hub to itself", x.cheapest(3, 3, 0), 0);
        due("cheapest(3, 3, 1)", x.cheapest(3, 3, 1), 3);
        says("cheapest: the lexicographically first pair (k, m) with this cost");
        HubNetworks y = row(9999, 10, 10, 10, 10, 10, 10, 10, 10);
        hubs(y, 0b11010000);
        due("cheapest(0, 1, 0) of equal pairs", y.cheapest(0, 1, 0), 0);
        due("cheapest(0, 1, 1)", y.cheapest(0, 1, 1), 4);
        due("cheapest(0, 1, 2)", y.cheapest(0, 1, 2), 4);
        HubNetworks z = row(9999, 10, 20, 20, 30, 10);
        z.setFactors(100, 100, 100, 0);
        hubs(z, 0b1110);
        due("cheapest(0, 3, 1) where each way is as long", z.cheapest(0, 3, 1), 1);
        due("cheapest(0, 3, 2)", z.cheapest(0, 3, 2), 1);
        z.setFactors(100, 99, 100, 0);
        due("cheapest(0, 3, 1) where the trunk is cheaper", z.cheapest(0, 3, 1), 1);
        due("cheapest(0, 3, 2)", z.cheapest(0, 3, 2), 3);
    }

    private static void hubBounds() {
        says("hubBound: BAD_STATE if there is no present hub");
        refused(HubNetworks::new, "hubBound() without nodes", HubNetworks::hubBound, BAD_STATE);
        refused(Checks::eight, "hubBound() of eight nodes", HubNetworks::hubBound, BAD_STATE);
        asks(Checks::eightHubs, "hubBound() if all are hubs", HubNetworks::hubBound, 84036);
        asks(() -> under(0), "hubBound() of one hub", HubNetworks::hubBound, 392001);
        says("hubBound: without flows it is the opening costs");
        HubNetworks x = one();
        x.setHub(0, true);
        due("hubBound() of one node", x.hubBound(), 7);
        x.setNode(0, 0, 0);
        due("hubBound() of nothing", x.hubBound(), 0);
    }

    /** Eight nodes under one hub: 28 pairs, 10 to 70 away, 1 each way; collected and distributed in full. */
    private static HubNetworks under(int hub) {
        HubNetworks x = eight();
        x.setHub(hub, true);
        for (int node = 0; node < 8; node++) {
            x.assign(node, hub);
        }
        return x;
    }

    private static void smallestOpenings() {
        says("bound: the sum of the smallest opening costs, as many as there are hubs (one for 0)");
        HubNetworks x = row(9999, 1, 1, 1, 1, 1, 1, 1, 1);
        int[] openings = {100000, 3, 7, 0, 100000, 3, 5, 99999};
        for (int node = 0; node < 8; node++) {
            x.setNode(node, openings[node], 9999);
        }
        int[] sums = {0, 0, 3, 6, 11, 18, 100017, 200017, 300017};
        for (int count = 0; count <= 8; count++) {
            due("bound(" + count + ")", x.bound(count), sums[count]);
        }
        x.setNode(3, 1, 9999);
        due("bound(0), as of one hub", x.bound(0), 1);
        says("bound: with all nodes as hubs, also if there are no present hubs or others");
        asks(Checks::square, "bound(2)", y -> y.bound(2), 28150);
        asks(Checks::planned, "bound(2)", y -> y.bound(2), 28150);
    }

    private static void feasiblePlans() {
        says("feasible: the number of feasible plans with just these hubs");
        asks(Checks::eight, "feasible(3), each of six nodes under one of two", x -> x.feasible(3), 64);
        asks(() -> narrow(48), "feasible(3) without all under one", x -> x.feasible(3), 62);
        asks(() -> narrow(28), "feasible(3) with four under each", x -> x.feasible(3), 20);
        asks(() -> narrow(27), "feasible(3) with room for seven", x -> x.feasible(3), 0);
        asks(() -> narrow(7), "feasible(255) with room for the hubs", x -> x.feasible(255), 1);
        asks(() -> narrow(6), "feasible(255) without it", x -> x.feasible(255), 0);
        asks(() -> narrow(56), "feasible(128) with room for all", x -> x.feasible(128), 1);
        asks(() -> narrow(55), "feasible(128) without it", x -> x.feasible(128), 0);
        asks(() -> narrow(9999), "feasible(7), three hubs for five nodes", x -> x.feasible(7), 243);
        asks(() -> narrow(9999), "feasible(15), four hubs for four nodes", x -> x.feasible(15), 256);
        asks(() -> narrow(9999), "feasible(127)", x -> x.feasible(127), 7);
    }

    private static HubNetworks narrow(int capacity) {
        HubNetworks x = eight();
        for (int node = 0; node < 8; node++) {
            x.setNode(node, 0, capacity);
        }
        return x;
    }

    private static void greatest() {
        says("the greatest flows, distances, factors, opening costs and congestion together");
        HubNetworks x = new HubNetworks();
        for (int i = 0; i < 8; i++) {
            x.addNode(i % 2 * 99, i % 2 * 99, 100000, 9999);
        }
        flowsOfAll(x, 100);
        x.setFactors(300, 100, 300, 9999);
        x.setCongestion(0, 1000, 0, 1000);
        hubs(x, 1);
        // Four nodes are 198 away, and send and receive 700 each.
        due("settle()", x.settle(), 2 * 300 * 4 * 700 * 198 + 100000 + 5600 * 2000);
        due("best(1)", x.best(1), 343940000);
        due("hubBound()", x.hubBound(), 2 * 300 * 4 * 700 * 198 + 100000);
        // Two ways of 198 * 100 between the places for each of 4 * 4 pairs with 100 each.
        due("bound(8)", x.bound(8), 2 * 16 * 100 * 198 * 100 + 800000);
        due("least(255)", x.least(255), 2 * 16 * 100 * 198 * 100 + 800000 + 5600 * 2000);
        due("best(8)", x.best(8), 75360000);
        due("best(0)", x.best(0), 63360000 + 200000 + 5600 * 2000);
        due("adopt(0)", x.adopt(0), 3);
    }
}
