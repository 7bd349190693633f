import java.math.BigInteger;
import java.util.LinkedHashMap;
import java.util.Map;
import java.util.function.ToLongFunction;

/** What is recorded and what is not, undo() at its ends, and digest() as it wraps around. */
public final class HistoryTest extends Checks {
    private static final Map<String, ToLongFunction<HubNetworks>> CALLS = new LinkedHashMap<>();
    private static final Map<String, Long> ANSWERS = new LinkedHashMap<>();

    public static void main(String[] args) {
        emptyHistory();
        atMostFourStates();
        undoIsNotRecorded();
        recordedCalls();
        recordedThoughNothingChanges();
        recordedThoughNone();
        refusedCalls();
        askingCalls();
        textCalls();
        wholeState();
        undoneIsGone();
        longestRun();
        shortDigest();
        digestThatWrapsAround();
        digestOfUnassigned();
        digestOfEachValue();
        report("HistoryTest");
    }

    /** The network with this many states in its history, and a flow from 0 to 3 as great as they are many. */
    private static HubNetworks with(int states, HubNetworks x) {
        for (int flow = 1; flow <= 4; flow++) {
            x.setFlow(0, 3, flow);
        }
        for (int left = 3; left >= states; left--) {
            due("undo()", x.undo(), left);
        }
        return x;
    }

    private static HubNetworks planned(int states) {
        return typed(with(states, planned()), "f 0 3 99;h 4");
    }

    private static void call(String name, ToLongFunction<HubNetworks> call, long answer) {
        CALLS.put(name, call);
        ANSWERS.put(name, answer);
    }

    private static void clearCalls() {
        CALLS.clear();
        ANSWERS.clear();
    }

    private static void emptyHistory() {
        says("undo: BAD_STATE if the history is empty");
        refused(HubNetworks::new, "undo()", HubNetworks::undo, BAD_STATE);
        refused(() -> planned(0), "undo() of a network with nodes", HubNetworks::undo, BAD_STATE);
        HubNetworks x = planned(0);
        due("undo()", x.undo(), BAD_STATE);
        due("undo() again", x.undo(), BAD_STATE);
        due("setFlow(0, 3, 5)", x.setFlow(0, 3, 5), 0);
        due("undo() of one", x.undo(), 0);
        due("undo() of none", x.undo(), BAD_STATE);
    }

    private static void atMostFourStates() {
        says("a history of at most 4 states; when one more is recorded, the oldest one is dropped");
        for (int calls = 0; calls <= 9; calls++) {
            HubNetworks x = new HubNetworks();
            long[] digests = new long[calls + 1];
            for (int i = 0; i < calls; i++) {
                digests[i] = x.digest();
                due("setCongestion()", x.setCongestion(i, 0, 9999, 0), i == 0 ? 9999 : i - 1);
            }
            int kept = Math.min(calls, 4);
            for (int left = kept - 1; left >= 0; left--) {
                due("undo() after " + calls + " calls", x.undo(), left);
                due("digest() after " + calls + " calls", x.digest(), digests[calls - kept + left]);
            }
            due("undo() of what was dropped, after " + calls + " calls", x.undo(), BAD_STATE);
        }
    }

    private static void undoIsNotRecorded() {
        says("undo: removes and restores the latest state");
        HubNetworks x = new HubNetworks();
        long first = x.digest();
        x.setFactors(1, 1, 1, 1);
        long second = x.digest();
        x.setFactors(2, 2, 2, 2);
        due("undo()", x.undo(), 1);
        due("digest()", x.digest(), second);
        x.setFactors(3, 3, 3, 3);
        due("undo()", x.undo(), 1);
        due("digest()", x.digest(), second);
        due("undo()", x.undo(), 0);
        due("digest()", x.digest(), first);
        due("undo()", x.undo(), BAD_STATE);
    }

    private static void recordedCalls() {
        says("the methods that are said to be recorded record the state before each call");
        clearCalls();
        call("addNode(1, 2, 3, 4)", x -> x.addNode(1, 2, 3, 4), 4);
        call("setFlow(1, 2, 21)", x -> x.setFlow(1, 2, 21), 20);
        call("setNode(1, 2, 3)", x -> x.setNode(1, 2, 3), 200);
        call("setFactors(1, 2, 3, 4)", x -> x.setFactors(1, 2, 3, 4), 50);
        call("setCongestion(1, 2, 3, 4)", x -> x.setCongestion(1, 2, 3, 4), 9999);
        call("setHub(0, true)", x -> x.setHub(0, true), 0);
        call("setHub(1, false)", x -> x.setHub(1, false), 1);
        call("assign(0, 2)", x -> x.assign(0, 2), 1);
        call("adopt(4)", x -> x.adopt(4), 15);
        call("run()", HubNetworks::run, 1);
        for (String name : CALLS.keySet()) {
            for (int states = 0; states <= 4; states++) {
                int kept = states;
                recorded(() -> planned(kept), name, CALLS.get(name), ANSWERS.get(name));
            }
        }
        for (int states = 0; states <= 4; states++) {
            int kept = states;
            recorded(() -> with(kept, away()), "settle()", HubNetworks::settle, with(kept, away()).least(6));
            recorded(() -> with(kept, away()), "improve()", HubNetworks::improve, 2);
        }
    }

    /** The planned square with 0 under 2. */
    private static HubNetworks away() {
        HubNetworks x = planned();
        x.assign(0, 2);
        return x;
    }

    private static void recordedThoughNothingChanges() {
        says("before each call that returns no error, even if it changes nothing");
        clearCalls();
        call("setFlow(1, 2, 20)", x -> x.setFlow(1, 2, 20), 20);
        call("setFlow(2, 1, 0)", x -> x.setFlow(2, 1, 0), 0);
        call("setNode(1, 200, 500)", x -> x.setNode(1, 200, 500), 200);
        call("setFactors(100, 50, 100, 0)", x -> x.setFactors(100, 50, 100, 0), 50);
        call("setCongestion(9999, 0, 9999, 0)", x -> x.setCongestion(9999, 0, 9999, 0), 9999);
        call("setHub(0, false)", x -> x.setHub(0, false), 0);
        call("setHub(1, true)", x -> x.setHub(1, true), 1);
        call("assign(0, 1)", x -> x.assign(0, 1), 1);
        for (String name : CALLS.keySet()) {
            for (int states = 0; states <= 4; states++) {
                int kept = states;
                recordedOnly(() -> planned(kept), name, CALLS.get(name), ANSWERS.get(name));
            }
        }
        recordedOnly(HistoryTest::adopted, "settle() of the best plan", HubNetworks::settle, 28650);
        recordedOnly(HistoryTest::adopted, "adopt(0) of the best plan", x -> x.adopt(0), 15);
        recordedOnly(HistoryTest::adopted, "improve() of the best plan", HubNetworks::improve, 0);
        recordedOnly(() -> typed(adopted(), "u 4"), "run() of an error at once", HubNetworks::run, 0);
        recordedOnly(() -> typed(adopted(), "h 0;h 3"), "run() of hubs that are hubs", HubNetworks::run, 2);
    }

    private static HubNetworks adopted() {
        HubNetworks x = square();
        x.adopt(0);
        return x;
    }

    private static void recordedThoughNone() {
        says("recorded, also if the result is NONE");
        for (int states = 0; states <= 4; states++) {
            int kept = states;
            recordedOnly(() -> planned(kept), "adopt(5)", x -> x.adopt(5), NONE);
            recordedOnly(() -> with(kept, narrow()), "settle()", HubNetworks::settle, NONE);
            recordedOnly(() -> with(kept, narrow()), "improve() without any plan", HubNetworks::improve, 0);
            recorded(() -> with(kept, loose()), "assign(0, 1)", x -> x.assign(0, 1), NONE);
        }
        recordedOnly(HubNetworks::new, "adopt(0) without nodes", x -> x.adopt(0), NONE);
    }

    /** The planned square without room at any node. */
    private static HubNetworks narrow() {
        HubNetworks x = planned();
        for (int node = 0; node < 4; node++) {
            x.setNode(node, 0, 0);
        }
        return x;
    }

    /** The planned square with the node 0 unassigned. */
    private static HubNetworks loose() {
        HubNetworks x = planned();
        x.setHub(0, true);
        x.setHub(0, false);
        return x;
    }

    private static void refusedCalls() {
        says("a call that returns an error changes nothing, and is not recorded");
        clearCalls();
        call("addNode(100, 0, 0, 0)", x -> x.addNode(100, 0, 0, 0), BAD_VALUE);
        call("setFlow(4, 0, 1)", x -> x.setFlow(4, 0, 1), BAD_INDEX);
        call("setFlow(0, 0, 1)", x -> x.setFlow(0, 0, 1), BAD_VALUE);
        call("setFlow(0, 1, 101)", x -> x.setFlow(0, 1, 101), BAD_VALUE);
        call("setNode(4, 0, 0)", x -> x.setNode(4, 0, 0), BAD_INDEX);
        call("setNode(0, 1, 10000)", x -> x.setNode(0, 1, 10000), BAD_VALUE);
        call("setNode(0, 100001, 1)", x -> x.setNode(0, 100001, 1), BAD_VALUE);
        call("setFactors(1, 2, 3, 10000)", x -> x.setFactors(1, 2, 3, 10000), BAD_VALUE);
        call("setFactors(0, 2, 3, 4)", x -> x.setFactors(0, 2, 3, 4), BAD_VALUE);
        call("setCongestion(1, 2, 3, 1001)", x -> x.setCongestion(1, 2, 3, 1001), BAD_VALUE);
        call("setCongestion(4, 2, 3, 5)", x -> x.setCongestion(4, 2, 3, 5), BAD_VALUE);
        call("setHub(4, true)", x -> x.setHub(4, true), BAD_INDEX);
        call("setHub(-1, false)", x -> x.setHub(-1, false), BAD_INDEX);
        call("assign(0, 4)", x -> x.assign(0, 4), BAD_INDEX);
        call("assign(1, 2)", x -> x.assign(1, 2), BAD_STATE);
        call("assign(0, 3)", x -> x.assign(0, 3), BAD_STATE);
        call("adopt(9)", x -> x.adopt(9), BAD_VALUE);
        call("type(256)", x -> x.type(256), BAD_VALUE);
        for (String name : CALLS.keySet()) {
            for (int states = 0; states <= 4; states++) {
                int kept = states;
                refused(() -> planned(kept), name, CALLS.get(name), ANSWERS.get(name));
            }
        }
        refused(Checks::eight, "addNode() as the ninth", x -> x.addNode(0, 0, 0, 0), FULL);
        refused(Checks::square, "settle() without hubs", HubNetworks::settle, BAD_STATE);
        refused(Checks::square, "improve() without hubs", HubNetworks::improve, BAD_STATE);
        refused(() -> typed(planned(), "f 0 3 9;"), "run() of a fault", HubNetworks::run, BAD_STATE);
        refused(() -> planned(0), "undo() of nothing", HubNetworks::undo, BAD_STATE);
        refused(() -> typed(planned(), " ".repeat(120)), "type(32) as byte 121", x -> x.type(32), FULL);
    }

    private static void askingCalls() {
        says("a call that only answers changes nothing, and is not recorded");
        clearCalls();
        call("nodes()", HubNetworks::nodes, 4);
        call("node(3, 2)", x -> x.node(3, 2), 50);
        call("flow(1, 2)", x -> x.flow(1, 2), 20);
        call("distance(2, 3)", x -> x.distance(2, 3), 20);
        call("hubs()", HubNetworks::hubs, 6);
        call("hubOf(3)", x -> x.hubOf(3), 2);
        call("check()", HubNetworks::check, 0);
        call("load(2)", x -> x.load(2), 13);
        call("trunk(2, 1)", x -> x.trunk(2, 1), 5);
        call("cost(4)", x -> x.cost(4), 500);
        call("path(0, 3, 1)", x -> x.path(0, 3, 1), 1);
        call("path(0, 3, 4)", x -> x.path(0, 3, 4), NONE);
        call("change(0, 1)", x -> x.change(0, 1), 1000000000);
        call("best(5)", x -> x.best(5), NONE);
        call("cheapest(3, 0, 0)", x -> x.cheapest(3, 0, 0), 3500);
        call("feasible(6)", x -> x.feasible(6), 4);
        call("textFault()", HubNetworks::textFault, NONE);
        call("hubOf(4)", x -> x.hubOf(4), BAD_INDEX);
        call("cost(6)", x -> x.cost(6), BAD_VALUE);
        call("load(0)", x -> x.load(0), BAD_STATE);
        for (String name : CALLS.keySet()) {
            for (int states = 0; states <= 4; states++) {
                int kept = states;
                asks(() -> planned(kept), name, CALLS.get(name), ANSWERS.get(name));
            }
        }
        asks(Checks::planned, "least(6)", x -> x.least(6), 54000);
        asks(Checks::planned, "best(0)", x -> x.best(0), 28650);
        asks(Checks::planned, "change(0, 2)", x -> x.change(0, 2), 1000017500);
        asks(Checks::planned, "hubBound()", HubNetworks::hubBound, 54000);
        asks(Checks::planned, "bound(2)", x -> x.bound(2), 28150);
        asks(Checks::planned, "digest()", HubNetworks::digest, planned().digest());
    }

    private static void textCalls() {
        says("type and clearText are not recorded, and the history does not hold the text");
        for (int states = 0; states <= 4; states++) {
            HubNetworks x = planned(states);
            due("clearText()", x.clearText(), 12);
            due("type(104)", x.type(104), 1);
            due("type(48)", x.type(48), 2);
            due("digest() after type()", x.digest(), planned(states).digest());
            same("the history after type()", past(x), past(planned(states)));
            due("run() of what was typed, after all that undo()", x.run(), 1);
            due("clearText()", x.clearText(), 2);
        }
    }

    private static void wholeState() {
        says("the whole state is recorded, and restored");
        HubNetworks x = typed(planned(), "n 1 2 3 4;f 4 0 5;f 0 4 6;h 4;a 0 4;u 1");
        long before = x.digest();
        due("run()", x.run(), 6);
        x.setFactors(1, 2, 3, 4);
        x.setCongestion(5, 6, 7, 8);
        x.setNode(0, 9, 10);
        due("undo()", x.undo(), 3);
        due("undo()", x.undo(), 2);
        due("undo()", x.undo(), 1);
        due("undo()", x.undo(), 0);
        due("digest()", x.digest(), before);
        due("node(4, 0)", x.node(4, 0), BAD_INDEX);
        due("cost(0)", x.cost(0), 54000);
        due("cost(0) as before", x.cost(0), planned().cost(0));
        due("node(0, 3)", x.node(0, 3), 500);
        due("setFactors()", x.setFactors(1, 2, 3, 4), 50);
        due("setCongestion()", x.setCongestion(1, 2, 3, 4), 9999);
    }

    private static void undoneIsGone() {
        says("undo() takes a node with its flows and its hub away for good");
        HubNetworks x = one();
        x.addNode(9, 9, 9, 9);
        x.setFlow(0, 1, 11);
        x.setFlow(1, 0, 12);
        x.setHub(1, true);
        due("undo()", x.undo(), 3);
        due("undo()", x.undo(), 2);
        due("undo()", x.undo(), 1);
        due("undo()", x.undo(), 0);
        due("nodes()", x.nodes(), 1);
        due("node(0, 4)", x.node(0, 4), 0);
        due("node(0, 5)", x.node(0, 5), 0);
        due("addNode()", x.addNode(9, 9, 9, 9), 1);
        due("flow(0, 1)", x.flow(0, 1), 0);
        due("flow(1, 0)", x.flow(1, 0), 0);
        due("hubOf(1)", x.hubOf(1), NONE);
    }

    private static void longestRun() {
        says("an object is used for at most 512 calls");
        HubNetworks x = new HubNetworks();
        for (int call = 1; call <= 507; call++) {
            due("setCongestion() as the call " + call, x.setCongestion(call, 0, 9999, 0), call == 1 ? 9999 : call - 1);
        }
        for (int left = 3; left >= 0; left--) {
            due("undo()", x.undo(), left);
        }
        due("setCongestion() as the call 512", x.setCongestion(0, 0, 0, 0), 503);
    }

    /** The document's hash of these values, with whole numbers that do not overflow, cut to 64 bits at last. */
    private static long hash(int... values) {
        BigInteger h = BigInteger.valueOf(7);
        for (int value : values) {
            h = h.multiply(BigInteger.valueOf(31)).add(BigInteger.valueOf(value));
        }
        return h.longValue();
    }

    private static void shortDigest() {
        says("digest: without nodes it does not overflow yet");
        due("digest()", new HubNetworks().digest(), hash(0, 0, 100, 50, 100, 0, 9999, 0, 9999, 0));
        due("digest() above the ints", new HubNetworks().digest() > FAR_ABOVE ? 1 : 0, 1);
        HubNetworks x = new HubNetworks();
        x.setFactors(300, 100, 300, 9999);
        x.setCongestion(9999, 1000, 9999, 1000);
        due("digest() of the greatest settings", x.digest(), hash(0, 0, 300, 100, 300, 9999, 9999, 1000, 9999, 1000));
    }

    private static void digestThatWrapsAround() {
        says("digest: h becomes 31 * h + v (long arithmetic with overflow)");
        due("digest() of one node", one().digest(),
            hash(1, 5, 6, 7, 8, 0, 0, NONE, 0, 0, 100, 50, 100, 0, 9999, 0, 9999, 0));
        HubNetworks x = eightHubs();
        int[] values = new int[1 + 8 * 7 + 64 + 9];
        int at = 0;
        values[at++] = 8;
        for (int node = 0; node < 8; node++) {
            for (int v : new int[] {10 * node, 0, node + 1, 49, 7, 7, node}) {
                values[at++] = v;
            }
        }
        for (int pair = 0; pair < 64; pair++) {
            values[at++] = pair % 9 == 0 ? 0 : 1;
        }
        for (int v : new int[] {255, 100, 50, 100, 0, 9999, 0, 9999, 0}) {
            values[at++] = v;
        }
        due("digest() of eight hubs", x.digest(), hash(values));
        boolean negative = false;
        boolean positive = false;
        for (int flow = 0; flow <= 20; flow++) {
            x.setFlow(0, 1, flow);
            values[5] = flow + 6;
            values[1 + 7 + 5] = flow + 6;
            values[1 + 8 * 7 + 1] = flow;
            due("digest() with a flow of " + flow, x.digest(), hash(values));
            negative |= x.digest() < 0;
            positive |= x.digest() > 0;
        }
        due("digest() below and above 0", negative && positive ? 1 : 0, 1);
    }

    private static void digestOfUnassigned() {
        says("digest: hubOf() of an unassigned node is -1");
        HubNetworks x = new HubNetworks();
        for (int i = 0; i < 3; i++) {
            x.addNode(0, 0, 0, 0);
        }
        due("digest()", x.digest(), hash(3, 0, 0, 0, 0, 0, 0, -1, 0, 0, 0, 0, 0, 0, -1, 0, 0, 0, 0, 0, 0, -1,
            0, 0, 0, 0, 0, 0, 0, 0, 0, 0, 100, 50, 100, 0, 9999, 0, 9999, 0));
        x.setHub(2, true);
        x.assign(0, 2);
        due("digest() with a hub", x.digest(), hash(3, 0, 0, 0, 0, 0, 0, 2, 0, 0, 0, 0, 0, 0, -1, 0, 0, 0, 0, 0, 0, 2,
            0, 0, 0, 0, 0, 0, 0, 0, 0, 4, 100, 50, 100, 0, 9999, 0, 9999, 0));
    }

    private static void digestOfEachValue() {
        says("digest: each value at its place");
        HubNetworks x = new HubNetworks();
        x.addNode(1, 2, 3, 4);
        x.addNode(5, 6, 7, 8);
        x.setFlow(0, 1, 9);
        x.setFlow(1, 0, 10);
        x.setHub(1, true);
        x.assign(0, 1);
        x.setFactors(11, 12, 13, 14);
        x.setCongestion(15, 16, 17, 18);
        due("digest()", x.digest(), hash(2, 1, 2, 3, 4, 9, 10, 1, 5, 6, 7, 8, 10, 9, 1, 0, 9, 10, 0,
            2, 11, 12, 13, 14, 15, 16, 17, 18));
        due("digest() again", x.digest(), hash(2, 1, 2, 3, 4, 9, 10, 1, 5, 6, 7, 8, 10, 9, 1, 0, 9, 10, 0,
            2, 11, 12, 13, 14, 15, 16, 17, 18));
    }
}
