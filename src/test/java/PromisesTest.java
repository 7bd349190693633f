import java.util.function.LongSupplier;

/** The promises of the document one by one: ordinary inputs, edges, and wrong inputs. */
public final class PromisesTest extends Checks {
    public static void main(String[] args) {
        newObject();
        addNode();
        setFlow();
        setNode();
        setFactors();
        setCongestion();
        nodes();
        node();
        flow();
        distance();
        setHub();
        assign();
        hubs();
        hubOf();
        check();
        load();
        trunk();
        cost();
        path();
        change();
        settle();
        least();
        best();
        ties();
        adopt();
        improve();
        cheapest();
        hubBound();
        bound();
        feasible();
        type();
        clearText();
        textFault();
        run();
        undo();
        digest();
        greatestNumbers();
        report("PromisesTest");
    }

    /** A change that no cost depends on as long as the rates are 0, but the digest does. */
    private static long mark(HubNetworks x) {
        x.setCongestion(9000, 0, 9001, 0);
        return x.digest();
    }

    /** The call returns an error, changes nothing and is not recorded. */
    private static void refused(HubNetworks x, String call, LongSupplier made, long want) {
        long before = x.digest();
        long marked = mark(x);
        due(call, made.getAsLong(), want);
        due(call + " changed the state: digest()", x.digest(), marked);
        x.undo();
        due(call + " was recorded: digest() after undo()", x.digest(), before);
    }

    /** The call is recorded, and undo() takes it back; then it is made once more, and stays. */
    private static void recorded(HubNetworks x, String call, LongSupplier made, long want) {
        long before = x.digest();
        long marked = mark(x);
        due(call, made.getAsLong(), want);
        long after = x.digest();
        x.undo();
        due(call + " was not taken back: digest() after undo()", x.digest(), marked);
        x.undo();
        due(call + " was not recorded once: digest() after two undo()", x.digest(), before);
        due(call + " again", made.getAsLong(), want);
        due(call + " with the mark", mark(x), after);
        x.undo();
    }

    /** The call leaves the state and the history alone. */
    private static void asks(HubNetworks x, String call, LongSupplier made, long want) {
        refused(x, call, made, want);
    }

    private static void newObject() {
        says("1 a new object");
        HubNetworks x = new HubNetworks();
        due("nodes()", x.nodes(), 0);
        due("hubs()", x.hubs(), 0);
        due("check()", x.check(), 1);
        due("clearText()", x.clearText(), 0);
        due("textFault()", x.textFault(), 0);
        due("undo()", x.undo(), BAD_STATE);
        due("hubOf(0)", x.hubOf(0), BAD_INDEX);
        long h = 7;
        for (int v : new int[] {0, 0, 100, 50, 100, 0, 9999, 0, 9999, 0}) {
            h = 31 * h + v;
        }
        due("digest()", x.digest(), h);
        due("setFactors()", x.setFactors(1, 1, 1, 1), 50);
        due("setCongestion()", x.setCongestion(1, 1, 1, 1), 9999);
        HubNetworks other = new HubNetworks();
        due("digest() of another one", other.digest(), h);
        due("cost(0)", x.cost(0), BAD_STATE);
        due("digest() with other settings", x.digest() == h ? 1 : 0, 0);
    }

    private static void addNode() {
        says("2 addNode");
        HubNetworks x = new HubNetworks();
        recorded(x, "addNode(0, 99, 100000, 0)", () -> x.addNode(0, 99, 100000, 0), 0);
        recorded(x, "addNode(99, 0, 0, 9999)", () -> x.addNode(99, 0, 0, 9999), 1);
        due("node(0, 1)", x.node(0, 1), 99);
        due("node(0, 2)", x.node(0, 2), 100000);
        due("node(1, 0)", x.node(1, 0), 99);
        due("node(1, 3)", x.node(1, 3), 9999);
        due("hubOf(1)", x.hubOf(1), NONE);
        wrongNodes(x, BAD_VALUE);
        for (int node = 2; node < 8; node++) {
            due("addNode(node, node, 0, 0)", x.addNode(node, node, 0, 0), node);
            due("nodes()", x.nodes(), node + 1);
        }
        refused(x, "addNode() as the ninth", () -> x.addNode(1, 1, 1, 1), FULL);
        wrongNodes(x, BAD_VALUE);
    }

    private static void wrongNodes(HubNetworks x, int want) {
        refused(x, "addNode(-1, 0, 0, 0)", () -> x.addNode(-1, 0, 0, 0), want);
        refused(x, "addNode(100, 0, 0, 0)", () -> x.addNode(100, 0, 0, 0), want);
        refused(x, "addNode(0, -1, 0, 0)", () -> x.addNode(0, -1, 0, 0), want);
        refused(x, "addNode(0, 100, 0, 0)", () -> x.addNode(0, 100, 0, 0), want);
        refused(x, "addNode(0, 0, -1, 0)", () -> x.addNode(0, 0, -1, 0), want);
        refused(x, "addNode(0, 0, 100001, 0)", () -> x.addNode(0, 0, 100001, 0), want);
        refused(x, "addNode(0, 0, 0, -1)", () -> x.addNode(0, 0, 0, -1), want);
        refused(x, "addNode(0, 0, 0, 10000)", () -> x.addNode(0, 0, 0, 10000), want);
        refused(x, "addNode() far below", () -> x.addNode(FAR_BELOW, 0, 0, 0), want);
        refused(x, "addNode() far above", () -> x.addNode(0, 0, 0, FAR_ABOVE), want);
    }

    private static void setFlow() {
        says("3 setFlow");
        HubNetworks x = square();
        recorded(x, "setFlow(0, 3, 0)", () -> x.setFlow(0, 3, 0), 0);
        x.setFlow(0, 1, 100);
        due("setFlow(0, 1, 7)", x.setFlow(0, 1, 7), 100);
        due("setFlow(1, 0, 9)", x.setFlow(1, 0, 9), 0);
        due("flow(0, 1)", x.flow(0, 1), 7);
        due("flow(1, 0)", x.flow(1, 0), 9);
        refused(x, "setFlow(-1, 0, 1)", () -> x.setFlow(-1, 0, 1), BAD_INDEX);
        refused(x, "setFlow(4, 0, 1)", () -> x.setFlow(4, 0, 1), BAD_INDEX);
        refused(x, "setFlow(0, -1, 1)", () -> x.setFlow(0, -1, 1), BAD_INDEX);
        refused(x, "setFlow(0, 4, 101)", () -> x.setFlow(0, 4, 101), BAD_INDEX);
        refused(x, "setFlow(4, 4, 1)", () -> x.setFlow(4, 4, 1), BAD_INDEX);
        refused(x, "setFlow(8, 0, 1)", () -> x.setFlow(8, 0, 1), BAD_INDEX);
        refused(x, "setFlow(0, far above, 1)", () -> x.setFlow(0, FAR_ABOVE, 1), BAD_INDEX);
        refused(x, "setFlow(2, 2, 1)", () -> x.setFlow(2, 2, 1), BAD_VALUE);
        refused(x, "setFlow(2, 2, 0)", () -> x.setFlow(2, 2, 0), BAD_VALUE);
        refused(x, "setFlow(2, 1, -1)", () -> x.setFlow(2, 1, -1), BAD_VALUE);
        refused(x, "setFlow(2, 1, 101)", () -> x.setFlow(2, 1, 101), BAD_VALUE);
    }

    private static void setNode() {
        says("4 setNode");
        HubNetworks x = square();
        recorded(x, "setNode(2, 300, 500)", () -> x.setNode(2, 300, 500), 300);
        due("setNode(1, 100000, 9999)", x.setNode(1, 100000, 9999), 200);
        due("node(1, 2)", x.node(1, 2), 100000);
        due("node(1, 3)", x.node(1, 3), 9999);
        due("setNode(1, 0, 0)", x.setNode(1, 0, 0), 100000);
        due("node(1, 2)", x.node(1, 2), 0);
        due("node(1, 3)", x.node(1, 3), 0);
        due("node(1, 0)", x.node(1, 0), 10);
        refused(x, "setNode(-1, 0, 0)", () -> x.setNode(-1, 0, 0), BAD_INDEX);
        refused(x, "setNode(4, -1, 0)", () -> x.setNode(4, -1, 0), BAD_INDEX);
        refused(x, "setNode(0, -1, 0)", () -> x.setNode(0, -1, 0), BAD_VALUE);
        refused(x, "setNode(0, 100001, 0)", () -> x.setNode(0, 100001, 0), BAD_VALUE);
        refused(x, "setNode(0, 0, -1)", () -> x.setNode(0, 0, -1), BAD_VALUE);
        refused(x, "setNode(0, 0, 10000)", () -> x.setNode(0, 0, 10000), BAD_VALUE);
    }

    private static void setFactors() {
        says("5 setFactors");
        HubNetworks x = planned();
        recorded(x, "setFactors(100, 50, 100, 0)", () -> x.setFactors(100, 50, 100, 0), 50);
        due("setFactors(1, 0, 2, 9999)", x.setFactors(1, 0, 2, 9999), 50);
        due("cost(1)", x.cost(1), 10 * 10 + 5 * 20);
        due("cost(2)", x.cost(2), 100 * (20 + 5) * 10);
        due("cost(3)", x.cost(3), 2 * (5 * 10 + 8 * 20));
        due("setFactors(300, 100, 300, 0)", x.setFactors(300, 100, 300, 0), 0);
        due("setFactors(300, 1, 300, 20)", x.setFactors(300, 1, 300, 20), 100);
        due("cost(1)", x.cost(1), 300 * 200);
        due("cost(2)", x.cost(2), 1 * 20 * 10 + 100 * 5 * 10);
        due("cost(3)", x.cost(3), 300 * 210);
        refused(x, "setFactors(0, 0, 1, 0)", () -> x.setFactors(0, 0, 1, 0), BAD_VALUE);
        refused(x, "setFactors(301, 0, 1, 0)", () -> x.setFactors(301, 0, 1, 0), BAD_VALUE);
        refused(x, "setFactors(1, -1, 1, 0)", () -> x.setFactors(1, -1, 1, 0), BAD_VALUE);
        refused(x, "setFactors(1, 101, 1, 0)", () -> x.setFactors(1, 101, 1, 0), BAD_VALUE);
        refused(x, "setFactors(1, 0, 0, 0)", () -> x.setFactors(1, 0, 0, 0), BAD_VALUE);
        refused(x, "setFactors(1, 0, 301, 0)", () -> x.setFactors(1, 0, 301, 0), BAD_VALUE);
        refused(x, "setFactors(1, 0, 1, -1)", () -> x.setFactors(1, 0, 1, -1), BAD_VALUE);
        refused(x, "setFactors(1, 0, 1, 10000)", () -> x.setFactors(1, 0, 1, 10000), BAD_VALUE);
    }

    private static void setCongestion() {
        says("6 setCongestion");
        HubNetworks x = planned();
        long before = x.digest();
        due("setCongestion(0, 1000, 0, 1000)", x.setCongestion(0, 1000, 0, 1000), 9999);
        due("cost(5)", x.cost(5), 43 * 2000);
        due("undo()", x.undo(), 3);
        due("digest()", x.digest(), before);
        due("setCongestion(9999, 1, 9999, 1)", x.setCongestion(9999, 1, 9999, 1), 9999);
        due("setCongestion(10, 2, 20, 3)", x.setCongestion(10, 2, 20, 3), 9999);
        due("cost(5)", x.cost(5), 20 * 2 + 10 * 3 + 3 * 2);
        due("setCongestion(13, 2, 30, 3)", x.setCongestion(13, 2, 30, 3), 10);
        due("cost(5) with loads at the steps", x.cost(5), 17 * 2);
        refused(x, "setCongestion(-1, 0, 5, 0)", () -> x.setCongestion(-1, 0, 5, 0), BAD_VALUE);
        refused(x, "setCongestion(10000, 0, 10000, 0)", () -> x.setCongestion(10000, 0, 10000, 0), BAD_VALUE);
        refused(x, "setCongestion(1, -1, 5, 0)", () -> x.setCongestion(1, -1, 5, 0), BAD_VALUE);
        refused(x, "setCongestion(1, 1001, 5, 0)", () -> x.setCongestion(1, 1001, 5, 0), BAD_VALUE);
        refused(x, "setCongestion(1, 0, 0, 0)", () -> x.setCongestion(1, 0, 0, 0), BAD_VALUE);
        refused(x, "setCongestion(0, 0, -1, 0)", () -> x.setCongestion(0, 0, -1, 0), BAD_VALUE);
        refused(x, "setCongestion(1, 0, 10000, 0)", () -> x.setCongestion(1, 0, 10000, 0), BAD_VALUE);
        refused(x, "setCongestion(1, 0, 5, -1)", () -> x.setCongestion(1, 0, 5, -1), BAD_VALUE);
        refused(x, "setCongestion(1, 0, 5, 1001)", () -> x.setCongestion(1, 0, 5, 1001), BAD_VALUE);
    }

    private static void nodes() {
        says("7 nodes");
        HubNetworks x = square();
        asks(x, "nodes()", x::nodes, 4);
        x.addNode(100, 0, 0, 0);
        due("nodes() after an error", x.nodes(), 4);
        x.addNode(99, 0, 0, 0);
        due("nodes()", x.nodes(), 5);
    }

    private static void node() {
        says("8 node");
        HubNetworks x = square();
        int[] third = {10, 10, 300, 500, 8, 20};
        for (int what = 0; what < 6; what++) {
            int asked = what;
            asks(x, "node(2, " + what + ")", () -> x.node(2, asked), third[what]);
        }
        x.setFlow(0, 3, 100);
        due("node(0, 4)", x.node(0, 4), 110);
        due("node(0, 5)", x.node(0, 5), 5);
        asks(x, "node(4, 0)", () -> x.node(4, 0), BAD_INDEX);
        asks(x, "node(-1, 6)", () -> x.node(-1, 6), BAD_INDEX);
        asks(x, "node(8, 0)", () -> x.node(8, 0), BAD_INDEX);
        asks(x, "node(0, 6)", () -> x.node(0, 6), BAD_VALUE);
        asks(x, "node(0, -1)", () -> x.node(0, -1), BAD_VALUE);
    }

    private static void flow() {
        says("9 flow");
        HubNetworks x = square();
        asks(x, "flow(1, 2)", () -> x.flow(1, 2), 20);
        asks(x, "flow(2, 1)", () -> x.flow(2, 1), 0);
        asks(x, "flow(2, 2)", () -> x.flow(2, 2), 0);
        asks(x, "flow(4, 0)", () -> x.flow(4, 0), BAD_INDEX);
        asks(x, "flow(0, 4)", () -> x.flow(0, 4), BAD_INDEX);
        asks(x, "flow(-1, 0)", () -> x.flow(-1, 0), BAD_INDEX);
        asks(x, "flow(0, far below)", () -> x.flow(0, FAR_BELOW), BAD_INDEX);
    }

    private static void distance() {
        says("10 distance");
        HubNetworks x = square();
        asks(x, "distance(2, 3)", () -> x.distance(2, 3), 20);
        asks(x, "distance(3, 2)", () -> x.distance(3, 2), 20);
        asks(x, "distance(0, 2)", () -> x.distance(0, 2), 20);
        asks(x, "distance(3, 3)", () -> x.distance(3, 3), 0);
        asks(x, "distance(0, 4)", () -> x.distance(0, 4), BAD_INDEX);
        asks(x, "distance(4, 0)", () -> x.distance(4, 0), BAD_INDEX);
        asks(x, "distance(-1, 0)", () -> x.distance(-1, 0), BAD_INDEX);
        asks(x, "distance(0, -1)", () -> x.distance(0, -1), BAD_INDEX);
        HubNetworks y = new HubNetworks();
        y.addNode(0, 99, 0, 0);
        y.addNode(99, 0, 0, 0);
        due("distance(0, 1) at the corners", y.distance(0, 1), 198);
    }

    private static void setHub() {
        says("11 setHub");
        HubNetworks x = square();
        recorded(x, "setHub(3, false)", () -> x.setHub(3, false), 0);
        due("setHub(1, true)", x.setHub(1, true), 0);
        recorded(x, "setHub(1, true) again", () -> x.setHub(1, true), 1);
        due("hubOf(1)", x.hubOf(1), 1);
        x.assign(0, 1);
        x.assign(2, 1);
        due("setHub(0, false) of an assigned node", x.setHub(0, false), 0);
        due("hubOf(0) stays", x.hubOf(0), 1);
        due("setHub(0, true) of an assigned node", x.setHub(0, true), 0);
        due("hubOf(0)", x.hubOf(0), 0);
        x.assign(3, 0);
        due("setHub(1, false)", x.setHub(1, false), 1);
        due("hubOf(1)", x.hubOf(1), NONE);
        due("hubOf(2)", x.hubOf(2), NONE);
        due("hubOf(3)", x.hubOf(3), 0);
        due("hubs()", x.hubs(), 1);
        due("setHub(0, false)", x.setHub(0, false), 1);
        due("hubOf(0)", x.hubOf(0), NONE);
        due("hubOf(3)", x.hubOf(3), NONE);
        refused(x, "setHub(4, true)", () -> x.setHub(4, true), BAD_INDEX);
        refused(x, "setHub(-1, false)", () -> x.setHub(-1, false), BAD_INDEX);
        refused(x, "setHub(32, true)", () -> x.setHub(32, true), BAD_INDEX);
    }

    private static void assign() {
        says("12 assign");
        HubNetworks x = square();
        x.setHub(1, true);
        x.setHub(2, true);
        recorded(x, "assign(0, 1)", () -> x.assign(0, 1), NONE);
        x.undo();
        due("assign(0, 1)", x.assign(0, 1), NONE);
        due("assign(0, 2)", x.assign(0, 2), 1);
        recorded(x, "assign(0, 2) again", () -> x.assign(0, 2), 2);
        due("hubOf(0)", x.hubOf(0), 2);
        refused(x, "assign(1, 2) of a hub", () -> x.assign(1, 2), BAD_STATE);
        refused(x, "assign(1, 1) of a hub", () -> x.assign(1, 1), BAD_STATE);
        refused(x, "assign(0, 3) to no hub", () -> x.assign(0, 3), BAD_STATE);
        refused(x, "assign(0, 0) to itself", () -> x.assign(0, 0), BAD_STATE);
        refused(x, "assign(4, 1)", () -> x.assign(4, 1), BAD_INDEX);
        refused(x, "assign(0, 4)", () -> x.assign(0, 4), BAD_INDEX);
        refused(x, "assign(1, 4)", () -> x.assign(1, 4), BAD_INDEX);
        refused(x, "assign(-1, 1)", () -> x.assign(-1, 1), BAD_INDEX);
        refused(x, "assign(0, -1)", () -> x.assign(0, -1), BAD_INDEX);
    }

    private static void hubs() {
        says("13 hubs");
        HubNetworks x = square();
        asks(x, "hubs()", x::hubs, 0);
        x.setHub(0, true);
        x.setHub(3, true);
        asks(x, "hubs()", x::hubs, 9);
        x.setHub(0, false);
        due("hubs()", x.hubs(), 8);
    }

    private static void hubOf() {
        says("14 hubOf");
        HubNetworks x = planned();
        asks(x, "hubOf(0)", () -> x.hubOf(0), 1);
        asks(x, "hubOf(1)", () -> x.hubOf(1), 1);
        asks(x, "hubOf(3)", () -> x.hubOf(3), 2);
        x.setHub(1, false);
        asks(x, "hubOf(0) without its hub", () -> x.hubOf(0), NONE);
        asks(x, "hubOf(4)", () -> x.hubOf(4), BAD_INDEX);
        asks(x, "hubOf(-1)", () -> x.hubOf(-1), BAD_INDEX);
    }

    private static void check() {
        says("15 check");
        HubNetworks x = square();
        asks(x, "check() without hubs", x::check, 1);
        x.setHub(1, true);
        x.setHub(2, true);
        x.assign(0, 1);
        asks(x, "check() with a node unassigned", x::check, 1);
        x.assign(3, 2);
        asks(x, "check()", x::check, 0);
        x.setNode(1, 0, 30);
        due("check() at the capacity", x.check(), 0);
        x.setNode(1, 0, 29);
        due("check() above the capacity", x.check(), 2);
        x.setNode(1, 0, 30);
        x.setNode(0, 0, 0);
        x.setNode(3, 0, 0);
        due("check() with capacities of nodes that are no hubs", x.check(), 0);
        x.setNode(2, 0, 12);
        due("check() above the capacity of another hub", x.check(), 2);
        x.addNode(5, 5, 0, 0);
        due("check() with a new node", x.check(), 1);
        HubNetworks y = square();
        y.adopt(4);
        y.setHub(0, false);
        due("check() with the node 0 unassigned", y.check(), 1);
        y.setHub(0, true);
        due("check()", y.check(), 0);
        y.setNode(0, 0, 9);
        due("check() above the capacity of the node 0", y.check(), 2);
    }

    private static void load() {
        says("16 load");
        HubNetworks x = planned();
        asks(x, "load(1)", () -> x.load(1), 30);
        asks(x, "load(2)", () -> x.load(2), 13);
        x.setHub(0, true);
        due("load(1) without the node 0", x.load(1), 20);
        due("load(0)", x.load(0), 10);
        x.setHub(2, false);
        due("load(1) with flows to unassigned nodes", x.load(1), 20);
        asks(x, "load(2) of no hub", () -> x.load(2), BAD_STATE);
        asks(x, "load(4)", () -> x.load(4), BAD_INDEX);
        asks(x, "load(-1)", () -> x.load(-1), BAD_INDEX);
    }

    private static void trunk() {
        says("17 trunk");
        HubNetworks x = planned();
        asks(x, "trunk(1, 2)", () -> x.trunk(1, 2), 20);
        asks(x, "trunk(2, 1)", () -> x.trunk(2, 1), 5);
        x.setFlow(0, 3, 7);
        due("trunk(1, 2)", x.trunk(1, 2), 27);
        x.assign(0, 2);
        due("trunk(2, 1)", x.trunk(2, 1), 10);
        x.setHub(0, true);
        due("trunk(0, 1)", x.trunk(0, 1), 10);
        due("trunk(1, 0)", x.trunk(1, 0), 0);
        asks(x, "trunk(1, 3) to no hub", () -> x.trunk(1, 3), BAD_STATE);
        asks(x, "trunk(3, 1) from no hub", () -> x.trunk(3, 1), BAD_STATE);
        asks(x, "trunk(1, 1)", () -> x.trunk(1, 1), BAD_STATE);
        asks(x, "trunk(4, 1)", () -> x.trunk(4, 1), BAD_INDEX);
        asks(x, "trunk(3, 4)", () -> x.trunk(3, 4), BAD_INDEX);
        asks(x, "trunk(-1, 1)", () -> x.trunk(-1, 1), BAD_INDEX);
        asks(x, "trunk(1, -1)", () -> x.trunk(1, -1), BAD_INDEX);
        x.setHub(1, false);
        due("trunk(0, 2) with flows to unassigned nodes", x.trunk(0, 2), 7);
    }

    private static void cost() {
        says("18 cost");
        HubNetworks x = planned();
        int[] parts = {54000, 20000, 12500, 21000, 500, 0};
        for (int what = 0; what < 6; what++) {
            int asked = what;
            asks(x, "cost(" + what + ")", () -> x.cost(asked), parts[what]);
        }
        x.setNode(1, 200, 0);
        due("cost(0) of a plan that is not feasible", x.cost(0), 54000);
        x.setFactors(100, 50, 100, 5);
        due("cost(2) with trunk flows at the minimum", x.cost(2), 12500);
        x.setFactors(100, 50, 100, 6);
        due("cost(2) with one trunk flow below the minimum", x.cost(2), 15000);
        x.setFactors(100, 50, 100, 21);
        due("cost(2) with both below the minimum", x.cost(2), 25000);
        x.setFactors(10, 0, 20, 0);
        due("cost(2) with a factor of 0", x.cost(2), 0);
        due("cost(1)", x.cost(1), 2000);
        due("cost(3)", x.cost(3), 4200);
        x.setCongestion(13, 3, 25, 1000);
        due("cost(5)", x.cost(5), 17 * 3 + 5 * 1000);
        due("cost(0)", x.cost(0), 2000 + 4200 + 500 + 5051);
        asks(x, "cost(-1)", () -> x.cost(-1), BAD_VALUE);
        asks(x, "cost(6)", () -> x.cost(6), BAD_VALUE);
        x.addNode(0, 0, 0, 0);
        asks(x, "cost(0) of an incomplete plan", () -> x.cost(0), BAD_STATE);
        asks(x, "cost(4) of an incomplete plan", () -> x.cost(4), BAD_STATE);
        asks(x, "cost(6) of an incomplete plan", () -> x.cost(6), BAD_VALUE);
        due("cost(0) without nodes", new HubNetworks().cost(0), BAD_STATE);
    }

    private static void path() {
        says("19 path");
        HubNetworks x = planned();
        pathIs(x, 0, 3, 0, 1, 2, 3);
        pathIs(x, 3, 0, 3, 2, 1, 0);
        pathIs(x, 1, 2, 1, 2);
        pathIs(x, 0, 1, 0, 1);
        pathIs(x, 1, 0, 1, 0);
        pathIs(x, 0, 2, 0, 1, 2);
        pathIs(x, 1, 3, 1, 2, 3);
        x.assign(0, 2);
        pathIs(x, 0, 3, 0, 2, 3);
        asks(x, "path(0, 3, far above)", () -> x.path(0, 3, FAR_ABOVE), NONE);
        x.addNode(1, 1, 1, 1);
        asks(x, "path(5, 0, 0)", () -> x.path(5, 0, 0), BAD_INDEX);
        asks(x, "path(0, 5, -1)", () -> x.path(0, 5, -1), BAD_INDEX);
        asks(x, "path(-1, -1, 0)", () -> x.path(-1, -1, 0), BAD_INDEX);
        asks(x, "path(0, 0, 0)", () -> x.path(0, 0, 0), BAD_VALUE);
        asks(x, "path(4, 4, 0)", () -> x.path(4, 4, 0), BAD_VALUE);
        asks(x, "path(0, 4, -1)", () -> x.path(0, 4, -1), BAD_VALUE);
        asks(x, "path(0, 3, far below)", () -> x.path(0, 3, FAR_BELOW), BAD_VALUE);
        asks(x, "path(0, 4, 0)", () -> x.path(0, 4, 0), BAD_STATE);
        asks(x, "path(4, 0, 9)", () -> x.path(4, 0, 9), BAD_STATE);
    }

    private static void pathIs(HubNetworks x, int from, int to, int... nodes) {
        for (int index = 0; index < 5; index++) {
            int asked = index;
            asks(x, "path(" + from + ", " + to + ", " + index + ")", () -> x.path(from, to, asked),
                index < nodes.length ? nodes[index] : NONE);
        }
    }

    private static void change() {
        says("20 change");
        HubNetworks x = planned();
        // Collecting 10 * 10 more, trunk 2 to 1 of 10 instead of 5, and distributing 5 * 10 more.
        asks(x, "change(0, 2)", () -> x.change(0, 2), 1000000000 + 10000 + 2500 + 5000);
        asks(x, "change(0, 1)", () -> x.change(0, 1), 1000000000);
        int old = x.cost(0);
        int change = x.change(3, 1) - 1000000000;
        x.assign(3, 1);
        due("cost(0) after assign(3, 1)", x.cost(0), old + change);
        x.assign(0, 2);
        due("change(0, 1) downwards", x.change(0, 1) - 1000000000 < 0 ? 1 : 0, 1);
        x.assign(0, 1);
        x.assign(3, 2);
        x.setNode(2, 300, 0);
        due("change(0, 2) though not feasible", x.change(0, 2), 1000017500);
        x.setCongestion(20, 1, 20, 0);
        due("change(0, 2) with congestion", x.change(0, 2), 1000017500 - 10 + 3);
        x.setFactors(100, 50, 100, 10);
        due("change(0, 2) over the minimum", x.change(0, 2), 1000017500 - 2500 - 10 + 3);
        asks(x, "change(4, 1)", () -> x.change(4, 1), BAD_INDEX);
        asks(x, "change(1, 4)", () -> x.change(1, 4), BAD_INDEX);
        asks(x, "change(-1, 1)", () -> x.change(-1, 1), BAD_INDEX);
        asks(x, "change(0, -1)", () -> x.change(0, -1), BAD_INDEX);
        asks(x, "change(1, 2) of a hub", () -> x.change(1, 2), BAD_STATE);
        asks(x, "change(0, 3) to no hub", () -> x.change(0, 3), BAD_STATE);
        x.addNode(0, 0, 0, 0);
        asks(x, "change(0, 2) of an incomplete plan", () -> x.change(0, 2), BAD_STATE);
        asks(x, "change(4, 2) of an incomplete plan", () -> x.change(4, 2), BAD_STATE);
    }

    private static void settle() {
        says("21 settle");
        HubNetworks x = square();
        refused(x, "settle() without hubs", x::settle, BAD_STATE);
        HubNetworks none = new HubNetworks();
        refused(none, "settle() without nodes", none::settle, BAD_STATE);
        x.setHub(1, true);
        recorded(x, "settle()", x::settle, 82200);
        due("check()", x.check(), 0);
        x.setHub(2, true);
        x.assign(0, 2);
        recorded(x, "settle()", x::settle, 54000);
        due("hubOf(0)", x.hubOf(0), 1);
        due("hubOf(3)", x.hubOf(3), 2);
        recorded(x, "settle() again", x::settle, 54000);
        x.setNode(1, 200, 29);
        recorded(x, "settle() at the capacity", x::settle, 54000 + 17500);
        due("hubOf(0)", x.hubOf(0), 2);
        x.setNode(2, 300, 17);
        x.assign(0, 1);
        recorded(x, "settle() without a plan", x::settle, NONE);
        due("hubOf(0) stays", x.hubOf(0), 1);
        due("hubs() stays", x.hubs(), 6);
    }

    private static void least() {
        says("22 least");
        HubNetworks x = square();
        x.setHub(0, true);
        asks(x, "least(2)", () -> x.least(2), 82200);
        asks(x, "least(6)", () -> x.least(6), 54000);
        asks(x, "least(15)", () -> x.least(15), 28650);
        asks(x, "least(1)", () -> x.least(1), 112100);
        x.setCongestion(40, 100, 41, 10);
        due("least(1) with congestion", x.least(1), 112100 + 300 + 20);
        x.setFactors(100, 50, 100, 10);
        due("least(3) with a trunk below the minimum", x.least(3), 67300);
        x.setNode(1, 200, 42);
        asks(x, "least(2) above the capacity", () -> x.least(2), NONE);
        x.setNode(1, 200, 43);
        asks(x, "least(2) at the capacity", () -> x.least(2), 82200);
        asks(x, "least(0)", () -> x.least(0), BAD_VALUE);
        asks(x, "least(16)", () -> x.least(16), BAD_VALUE);
        asks(x, "least(-1)", () -> x.least(-1), BAD_VALUE);
        asks(x, "least(far above)", () -> x.least(FAR_ABOVE), BAD_VALUE);
        HubNetworks none = new HubNetworks();
        due("least(0) without nodes", none.least(0), BAD_VALUE);
        due("least(1) without nodes", none.least(1), BAD_VALUE);
        HubNetworks all = new HubNetworks();
        for (int i = 0; i < 8; i++) {
            all.addNode(i, 0, 1, 1);
        }
        due("least(255)", all.least(255), 8);
        due("least(256)", all.least(256), BAD_VALUE);
    }

    private static void best() {
        says("23 best");
        HubNetworks x = square();
        asks(x, "best(0)", () -> x.best(0), 28650);
        asks(x, "best(1)", () -> x.best(1), 82200);
        asks(x, "best(2)", () -> x.best(2), 54000);
        asks(x, "best(4)", () -> x.best(4), 28650);
        asks(x, "best(5)", () -> x.best(5), NONE);
        asks(x, "best(8)", () -> x.best(8), NONE);
        asks(x, "best(9)", () -> x.best(9), BAD_VALUE);
        asks(x, "best(-1)", () -> x.best(-1), BAD_VALUE);
        for (int node = 0; node < 4; node++) {
            x.setNode(node, 0, 7);
        }
        asks(x, "best(0) without room", () -> x.best(0), NONE);
        HubNetworks none = new HubNetworks();
        due("best(0) without nodes", none.best(0), NONE);
        due("best(1) without nodes", none.best(1), NONE);
        due("best(9) without nodes", none.best(9), BAD_VALUE);
    }

    /** Of plans that cost the same, the one with the lower mask, then the lower sequence of hubs. */
    private static void ties() {
        says("23 and 24, equal costs");
        HubNetworks x = new HubNetworks();
        for (int i = 0; i < 4; i++) {
            x.addNode(5, 5, 0, 9999);
        }
        x.setFlow(0, 1, 10);
        due("adopt(0)", x.adopt(0), 1);
        due("adopt(2)", x.adopt(2), 3);
        due("hubOf(2)", x.hubOf(2), 0);
        due("hubOf(3)", x.hubOf(3), 0);
        due("adopt(3)", x.adopt(3), 7);
        due("hubOf(3)", x.hubOf(3), 0);
        x.setNode(0, 1, 9999);
        due("adopt(0) with a dearer node", x.adopt(0), 2);
        due("hubOf(3)", x.hubOf(3), 1);
        x.setNode(1, 0, 0);
        due("adopt(0) without room in the node 1", x.adopt(0), 4);
        due("adopt(2) without room in the node 1 for the node 0", x.adopt(2), 6);
        due("hubOf(0)", x.hubOf(0), 2);
        due("hubOf(3)", x.hubOf(3), 1);
        x.setFlow(1, 2, 5);
        x.setNode(2, 0, 10);
        x.setHub(1, false);
        x.setHub(3, true);
        due("settle() with room for one node in each hub", x.settle(), 0);
        due("hubOf(0)", x.hubOf(0), 2);
        due("hubOf(1)", x.hubOf(1), 3);
        x.setHub(0, true);
        due("settle() with three hubs", x.settle(), 1);
        due("hubOf(1)", x.hubOf(1), 0);
    }

    private static void adopt() {
        says("24 adopt");
        HubNetworks x = square();
        recorded(x, "adopt(2)", () -> x.adopt(2), 6);
        due("hubs()", x.hubs(), 6);
        due("hubOf(0)", x.hubOf(0), 1);
        due("hubOf(3)", x.hubOf(3), 2);
        recorded(x, "adopt(5)", () -> x.adopt(5), NONE);
        due("hubs() stays", x.hubs(), 6);
        recorded(x, "adopt(1)", () -> x.adopt(1), 2);
        due("hubOf(2)", x.hubOf(2), 1);
        due("cost(0)", x.cost(0), 82200);
        recorded(x, "adopt(0)", () -> x.adopt(0), 15);
        recorded(x, "adopt(8)", () -> x.adopt(8), NONE);
        refused(x, "adopt(9)", () -> x.adopt(9), BAD_VALUE);
        refused(x, "adopt(-1)", () -> x.adopt(-1), BAD_VALUE);
        HubNetworks none = new HubNetworks();
        due("adopt(0) without nodes", none.adopt(0), NONE);
        due("undo() of it", none.undo(), 0);
    }

    private static void improve() {
        says("25 improve");
        HubNetworks x = square();
        refused(x, "improve() without hubs", x::improve, BAD_STATE);
        x.setHub(1, true);
        recorded(x, "improve()", x::improve, 3);
        due("hubs()", x.hubs(), 15);
        due("check()", x.check(), 0);
        recorded(x, "improve() again", x::improve, 0);
        improveToOneHub();
        improveWithoutPlans();
        improveOfEqualSets();
    }

    private static void improveToOneHub() {
        HubNetworks x = new HubNetworks();
        x.addNode(0, 0, 50, 100);
        x.addNode(0, 0, 40, 100);
        x.addNode(0, 0, 30, 100);
        x.setHub(0, true);
        x.setHub(1, true);
        // 01 -> 1: the set of 1 alone costs 40, of 0 alone 50; from 1 alone no neighbour is cheaper.
        due("improve() to one hub", x.improve(), 1);
        due("hubs()", x.hubs(), 2);
        due("hubOf(0)", x.hubOf(0), 1);
        due("hubOf(2)", x.hubOf(2), 1);
        x.setHub(2, true);
        due("improve() to another one", x.improve(), 1);
        due("hubs()", x.hubs(), 4);
        x.setNode(0, 0, 100);
        due("improve() at equal costs", x.improve(), 0);
        due("hubs() stays", x.hubs(), 4);
    }

    private static void improveWithoutPlans() {
        HubNetworks x = new HubNetworks();
        x.addNode(0, 0, 10, 5);
        x.addNode(0, 0, 20, 5);
        x.addNode(0, 0, 30, 15);
        x.setFlow(0, 1, 6);
        x.setHub(0, true);
        due("settle()", x.settle(), NONE);
        due("improve() away from hubs without room", x.improve(), 0);
        due("hubs() stays", x.hubs(), 1);
        due("hubOf(1) stays", x.hubOf(1), NONE);
        x.setHub(0, false);
        x.setHub(1, true);
        x.assign(0, 1);
        // From the node 1 without a plan to 0 and 1, or 1 and 2 (50); then to 2 alone (30).
        recorded(x, "improve() from no plan to dearer hubs", x::improve, 2);
        due("hubs()", x.hubs(), 4);
        due("hubOf(0)", x.hubOf(0), 2);
        due("check()", x.check(), 0);
    }

    private static void improveOfEqualSets() {
        HubNetworks x = new HubNetworks();
        x.addNode(50, 50, 0, 1000);
        x.addNode(40, 50, 0, 1000);
        x.addNode(60, 50, 0, 1000);
        x.addNode(50, 40, 20000, 1000);
        x.setFlow(0, 1, 10);
        x.setFlow(0, 2, 10);
        x.setFactors(100, 100, 100, 0);
        x.setHub(3, true);
        // Adding 0 costs 20000 + 20000; then removing 3 is the best of all; then nothing is cheaper.
        due("improve()", x.improve(), 2);
        due("hubs()", x.hubs(), 1);
        x.setFactors(100, 50, 100, 0);
        // Adding 1 or 2 saves the same; the lower one is added first.
        x.setNode(1, 4000, 1000);
        x.setNode(2, 4000, 1000);
        due("improve() of two equal sets", x.improve(), 2);
        due("hubs()", x.hubs(), 7);
        x.adopt(1);
        due("hubs()", x.hubs(), 1);
        x.setNode(1, 5000, 1000);
        x.setNode(2, 5000, 1000);
        due("improve() without a gain", x.improve(), 0);
        x.setFactors(100, 50, 100, 10);
        x.setNode(1, 4999, 1000);
        x.setNode(2, 4999, 1000);
        x.setFlow(1, 2, 1);
        x.setFlow(2, 1, 1);
        due("cost(0)", x.cost(0), 24000);
        int lower = x.least(3);
        due("least(5)", x.least(5), lower);
        due("least(7) is dearer", x.least(7) > lower ? 1 : 0, 1);
        due("improve() to the lower of two equal sets", x.improve(), 1);
        due("hubs()", x.hubs(), 3);
    }

    private static void cheapest() {
        says("26 cheapest");
        HubNetworks x = planned();
        asks(x, "cheapest(3, 0, 0)", () -> x.cheapest(3, 0, 0), 3500);
        asks(x, "cheapest(3, 0, 1)", () -> x.cheapest(3, 0, 1), 2);
        asks(x, "cheapest(3, 0, 2)", () -> x.cheapest(3, 0, 2), 1);
        asks(x, "cheapest(0, 0, 0)", () -> x.cheapest(0, 0, 0), 2000);
        asks(x, "cheapest(0, 0, 1)", () -> x.cheapest(0, 0, 1), 1);
        asks(x, "cheapest(0, 0, 2)", () -> x.cheapest(0, 0, 2), 1);
        asks(x, "cheapest(1, 1, 0)", () -> x.cheapest(1, 1, 0), 0);
        x.setFactors(100, 50, 250, 9999);
        due("cheapest(3, 0, 0)", x.cheapest(3, 0, 0), 2000 + 500 + 2500);
        x.setFactors(10, 100, 20, 0);
        due("cheapest(0, 3, 0)", x.cheapest(0, 3, 0), 200 + 400);
        due("cheapest(0, 3, 1)", x.cheapest(0, 3, 1), 2);
        due("cheapest(0, 3, 2)", x.cheapest(0, 3, 2), 2);
        x.setFactors(100, 100, 100, 0);
        due("cheapest(0, 2, 1) of equal pairs", x.cheapest(0, 2, 1), 1);
        due("cheapest(0, 2, 2) of equal pairs", x.cheapest(0, 2, 2), 1);
        asks(x, "cheapest(4, 0, 0)", () -> x.cheapest(4, 0, 0), BAD_INDEX);
        asks(x, "cheapest(0, 4, 3)", () -> x.cheapest(0, 4, 3), BAD_INDEX);
        asks(x, "cheapest(-1, 0, 0)", () -> x.cheapest(-1, 0, 0), BAD_INDEX);
        asks(x, "cheapest(0, -1, 0)", () -> x.cheapest(0, -1, 0), BAD_INDEX);
        asks(x, "cheapest(0, 1, 3)", () -> x.cheapest(0, 1, 3), BAD_VALUE);
        asks(x, "cheapest(0, 1, -1)", () -> x.cheapest(0, 1, -1), BAD_VALUE);
        HubNetworks none = square();
        asks(none, "cheapest(0, 1, 0) without hubs", () -> none.cheapest(0, 1, 0), BAD_STATE);
        asks(none, "cheapest(0, 1, 3) without hubs", () -> none.cheapest(0, 1, 3), BAD_VALUE);
    }

    private static void hubBound() {
        says("27 hubBound");
        HubNetworks x = planned();
        asks(x, "hubBound()", x::hubBound, 54000);
        x.setFactors(100, 50, 100, 9999);
        due("hubBound() does not look at the minimum", x.hubBound(), 54000);
        x.setHub(2, false);
        due("hubBound() of one hub", x.hubBound(), 82200);
        x.setHub(1, false);
        asks(x, "hubBound() without hubs", x::hubBound, BAD_STATE);
        due("hubBound() without nodes", new HubNetworks().hubBound(), BAD_STATE);
    }

    private static void bound() {
        says("28 bound");
        HubNetworks x = square();
        // 500, 1000 for 10 units each way of the flows: 10 * 500 + 20 * 500 + 5 * 1000 + 8 * 1000.
        asks(x, "bound(0)", () -> x.bound(0), 28000 + 50);
        asks(x, "bound(1)", () -> x.bound(1), 28000 + 50);
        asks(x, "bound(2)", () -> x.bound(2), 28000 + 150);
        asks(x, "bound(3)", () -> x.bound(3), 28000 + 350);
        asks(x, "bound(4)", () -> x.bound(4), 28000 + 650);
        asks(x, "bound(5)", () -> x.bound(5), BAD_VALUE);
        asks(x, "bound(-1)", () -> x.bound(-1), BAD_VALUE);
        x.setNode(1, 50, 0);
        due("bound(2) with equal opening costs", x.bound(2), 28100);
        x.setHub(2, true);
        due("bound(0) does not look at present hubs", x.bound(0), 28050);
        x.setFlow(0, 3, 1);
        due("bound(0) with a flow of 1", x.bound(0), 28050 + 1000);
        HubNetworks none = new HubNetworks();
        asks(none, "bound(0) without nodes", () -> none.bound(0), 0);
        asks(none, "bound(1) without nodes", () -> none.bound(1), BAD_VALUE);
    }

    private static void feasible() {
        says("29 feasible");
        HubNetworks x = square();
        asks(x, "feasible(1)", () -> x.feasible(1), 1);
        asks(x, "feasible(6)", () -> x.feasible(6), 4);
        asks(x, "feasible(15)", () -> x.feasible(15), 1);
        // The node 0 sends 10, the node 1 sends 20, the node 2 sends 8, the node 3 sends 5.
        x.setNode(1, 0, 30);
        due("feasible(6) without room for all in 1", x.feasible(6), 3);
        x.setNode(2, 0, 12);
        due("feasible(6) with room for none in 2", x.feasible(6), 0);
        x.setNode(2, 0, 13);
        due("feasible(6) with room for one in 2", x.feasible(6), 1);
        x.setNode(2, 0, 7);
        due("feasible(6) without room for the hub itself", x.feasible(6), 0);
        asks(x, "feasible(0)", () -> x.feasible(0), BAD_VALUE);
        asks(x, "feasible(16)", () -> x.feasible(16), BAD_VALUE);
        asks(x, "feasible(-1)", () -> x.feasible(-1), BAD_VALUE);
        HubNetworks eight = new HubNetworks();
        for (int i = 0; i < 8; i++) {
            eight.addNode(i, i, 0, 0);
        }
        due("feasible(15) of eight nodes", eight.feasible(15), 256);
        due("feasible(7) of eight nodes", eight.feasible(7), 243);
        due("feasible(256) of eight nodes", eight.feasible(256), BAD_VALUE);
    }

    private static void type() {
        says("30 type");
        HubNetworks x = new HubNetworks();
        due("type(0)", x.type(0), 1);
        due("type(255)", x.type(255), 2);
        due("type(-1)", x.type(-1), BAD_VALUE);
        due("type(256)", x.type(256), BAD_VALUE);
        due("undo() does not know of type()", x.undo(), BAD_STATE);
        for (int length = 3; length <= 120; length++) {
            due("type(32)", x.type(32), length);
        }
        due("type(32) as byte 121", x.type(32), FULL);
        due("type(256) as byte 121", x.type(256), BAD_VALUE);
        due("clearText()", x.clearText(), 120);
        due("type(104)", x.type(104), 1);
    }

    private static void clearText() {
        says("31 clearText");
        HubNetworks x = square();
        due("clearText()", x.clearText(), 0);
        typeAll(x, "h 1");
        long before = x.digest();
        due("textFault()", x.textFault(), NONE);
        due("clearText()", x.clearText(), 3);
        due("clearText() again", x.clearText(), 0);
        due("textFault()", x.textFault(), 0);
        due("digest()", x.digest(), before);
        due("undo() does not know of clearText()", x.undo(), 3);
        due("flow(2, 3)", x.flow(2, 3), 0);
    }

    private static void fault(String text, int want) {
        HubNetworks x = new HubNetworks();
        typeAll(x, text);
        due("textFault() of \"" + text + "\"", x.textFault(), want);
        due("textFault() of \"" + text + "\" again", x.textFault(), want);
        due("undo() after textFault()", x.undo(), BAD_STATE);
    }

    private static void textFault() {
        says("32 textFault");
        for (String good : new String[] {"h1", "u 1", "a 1 2", "f1 2 3", "n 1 2 3 4", " h 1 ", "h1;u2;a3 4",
            "h 1 ; u 2", "  n  1  2  3  4  ;  f 1 2 3", "h 999999", "h 000000", "h1;h1;h1;h1;h1;h1;h1"}) {
            fault(good, NONE);
        }
        for (String early : new String[] {"", " ", "h", "h ", "u", "a 1", "a 1 ", "f 1 2", "n 1 2 3", "n 1 2 3 ",
            "h 1;", "h 1; ", "n", "f", "a"}) {
            fault(early, early.length());
        }
        fault(";", 0);
        fault("1", 0);
        fault(" x", 1);
        fault("H 1", 0);
        fault("h;", 1);
        fault("h x", 2);
        fault("hh", 1);
        fault("h 1 2", 4);
        fault("h 1 u 2", 4);
        fault("h 1x", 3);
        fault("h 1;;h 1", 4);
        fault("h 1; 2", 5);
        fault("a 1;2", 3);
        fault("f 1 2 x", 6);
        fault("h -1", 2);
        fault("h +1", 2);
        fault("h\t1", 1);
        fault("h 1\n", 3);
        fault("h 1234567", 2);
        fault("h1234567", 1);
        fault("a 123456 1234567", 9);
        fault("h 0000001", 2);
        fault("h 1 1234567", 4);
        fault("a 1 1234567x", 4);
        fault("h /", 2);
        fault("h :", 2);
        fault("h 1\u00ff", 3);
        fault("h 1\u0000", 3);
        fault("n 1 2 3 4 5", 10);
        fault("\u0000", 0);
        fault("h1;".repeat(40), 120);
        fault("h1;".repeat(39) + "h12", NONE);
        fault("h1;".repeat(39) + "h1 ", NONE);
        fault(" ".repeat(120), 120);
        fault(" ".repeat(118) + "h1", NONE);
        fault("h" + "1".repeat(119), 1);
    }

    private static void run() {
        says("33 run");
        HubNetworks x = new HubNetworks();
        due("run() of an empty text", x.run(), BAD_STATE);
        typeAll(x, "h 0;");
        due("run() of a text with a fault", x.run(), BAD_STATE);
        due("undo() after it", x.undo(), BAD_STATE);
        typeAll(x, "n 5 6 7 8;n 9 10 11 12;f 0 1 13;h 1;a 0 1;u 0");
        recorded(x, "run()", x::run, 6);
        due("nodes()", x.nodes(), 2);
        due("node(0, 0)", x.node(0, 0), 5);
        due("node(0, 1)", x.node(0, 1), 6);
        due("node(0, 2)", x.node(0, 2), 7);
        due("node(0, 3)", x.node(0, 3), 8);
        due("node(1, 3)", x.node(1, 3), 12);
        due("flow(0, 1)", x.flow(0, 1), 13);
        due("hubs()", x.hubs(), 2);
        due("hubOf(0)", x.hubOf(0), 1);
        due("clearText() after run()", x.clearText(), 45);
        typeAll(x, "u 1;h 0;f 0 1 101;h 1");
        recorded(x, "run() up to an error", x::run, 2);
        due("hubs()", x.hubs(), 1);
        due("run() once more", x.run(), 2);
        typeAll(x, "h 2;u 0");
        recorded(x, "run() of an error at once", x::run, 0);
        due("hubs()", x.hubs(), 1);
        typeAll(x, "a 0 1;u 0");
        due("run() with a bad state", x.run(), 0);
        typeAll(x, "n 100 0 0 0");
        due("run() with a bad value", x.run(), 0);
        typeAll(x, "u 999999");
        due("run() with a bad index", x.run(), 0);
        typeAll(x, "n 000099 1 100000 9999;u 0;u 000001");
        due("run() with zeros", x.run(), 3);
        due("node(2, 0)", x.node(2, 0), 99);
        due("node(2, 2)", x.node(2, 2), 100000);
        typeAll(x, "n 1 1 1 1;".repeat(7) + "h 0");
        due("run() until there are eight nodes", x.run(), 5);
        due("nodes()", x.nodes(), 8);
        typeAll(x, "h1;".repeat(39) + "u1");
        due("run() of forty commands", x.run(), 40);
        due("undo()", x.undo(), 3);
        due("textFault() after undo()", x.textFault(), NONE);
        due("clearText() after undo()", x.clearText(), 119);
    }

    private static void undo() {
        says("34 undo");
        HubNetworks x = new HubNetworks();
        due("undo()", x.undo(), BAD_STATE);
        long[] digests = new long[7];
        for (int i = 0; i < 6; i++) {
            digests[i] = x.digest();
            x.addNode(i, i, i, i);
        }
        for (int left = 3; left >= 0; left--) {
            due("undo()", x.undo(), left);
            due("digest()", x.digest(), digests[left + 2]);
        }
        due("undo() of a fifth state", x.undo(), BAD_STATE);
        due("nodes()", x.nodes(), 2);
        x.setFlow(0, 1, 50);
        x.addNode(1, 1, 1, 1);
        x.setFlow(2, 0, 60);
        x.setHub(2, true);
        due("undo()", x.undo(), 3);
        due("undo()", x.undo(), 2);
        due("undo()", x.undo(), 1);
        due("addNode() after undo()", x.addNode(2, 2, 2, 2), 2);
        due("flow(2, 0) of the new node", x.flow(2, 0), 0);
        due("hubOf(2) of the new node", x.hubOf(2), NONE);
        due("flow(0, 1)", x.flow(0, 1), 50);
        due("undo()", x.undo(), 1);
        due("undo()", x.undo(), 0);
        due("flow(0, 1)", x.flow(0, 1), 0);
        undoOfSettings();
    }

    private static void undoOfSettings() {
        HubNetworks x = planned();
        long before = x.digest();
        x.setFactors(1, 2, 3, 4);
        x.setCongestion(5, 6, 7, 8);
        x.setNode(0, 9, 10);
        x.setHub(0, true);
        x.undo();
        x.undo();
        x.undo();
        due("undo()", x.undo(), 0);
        due("digest()", x.digest(), before);
        due("setFactors() returns the old T", x.setFactors(1, 2, 3, 4), 50);
    }

    private static void digest() {
        says("35 digest");
        HubNetworks x = planned();
        x.setFactors(11, 12, 13, 14);
        x.setCongestion(15, 16, 17, 18);
        int[] values = {4,
            0, 0, 100, 500, 10, 5, 1,
            10, 0, 200, 500, 20, 10, 1,
            10, 10, 300, 500, 8, 20, 2,
            0, 20, 50, 500, 5, 8, 2,
            0, 10, 0, 0, 0, 0, 20, 0, 0, 0, 0, 8, 5, 0, 0, 0,
            6, 11, 12, 13, 14, 15, 16, 17, 18};
        long h = 7;
        for (int v : values) {
            h = 31 * h + v;
        }
        asks(x, "digest()", x::digest, digestMarked(x));
        due("digest()", x.digest(), h);
        x.setHub(1, false);
        values[7] = NONE;
        values[14] = NONE;
        values[45] = 4;
        h = 7;
        for (int v : values) {
            h = 31 * h + v;
        }
        due("digest() with unassigned nodes", x.digest(), h);
    }

    private static long digestMarked(HubNetworks x) {
        long marked = mark(x);
        x.undo();
        return marked;
    }

    /** Everything at its greatest stays within the ints. */
    private static void greatestNumbers() {
        says("18 to 28, the greatest numbers");
        HubNetworks x = new HubNetworks();
        for (int i = 0; i < 8; i++) {
            x.addNode(i % 2 * 99, i % 2 * 99, 100000, 9999);
        }
        for (int a = 0; a < 8; a++) {
            for (int b = 0; b < 8; b++) {
                if (a != b) {
                    x.setFlow(a, b, 100);
                }
            }
        }
        x.setFactors(300, 100, 300, 9999);
        x.setCongestion(0, 1000, 0, 1000);
        x.setHub(0, true);
        x.setHub(1, true);
        for (int node = 2; node < 8; node++) {
            x.assign(node, (node + 1) % 2);
        }
        due("cost(1)", x.cost(1), 300 * 6 * 700 * 198);
        due("cost(3)", x.cost(3), 300 * 6 * 700 * 198);
        due("cost(2)", x.cost(2), 100 * 3200 * 198);
        due("cost(4)", x.cost(4), 200000);
        due("cost(5)", x.cost(5), 5600 * 2000);
        due("cost(0)", x.cost(0), 2 * 300 * 6 * 700 * 198 + 63360000 + 200000 + 11200000);
        due("load(0)", x.load(0), 2800);
        due("trunk(0, 1)", x.trunk(0, 1), 1600);
        due("change(2, 0)", x.change(2, 0) < 1000000000 && x.change(2, 0) > 0 ? 1 : 0, 1);
        due("best(0)", x.best(0), x.least(3));
    }
}
