import java.util.ArrayList;
import java.util.List;
import java.util.function.Supplier;
import java.util.function.ToLongFunction;

/** What the tests share: networks to begin with, and ways to tell what a call has changed. */
abstract class Checks {
    static final int NONE = -1, BAD_INDEX = -2, BAD_VALUE = -3, BAD_STATE = -4, FULL = -5;
    static final int FAR_BELOW = Integer.MIN_VALUE, FAR_ABOVE = Integer.MAX_VALUE;
    private static int wrong;
    private static int asked;
    private static String sentence = "";

    /** A call with one of its arguments left open. */
    interface Argument {
        long in(HubNetworks x, int value);
    }

    /** Names what the answers from here on are due to. */
    static void says(String words) {
        sentence = words;
    }

    static void due(String call, long answer, long want) {
        asked++;
        if (answer != want) {
            wrong++;
            System.out.println(sentence + ": " + call + " answered " + answer + ", due is " + want);
        }
    }

    static void same(String what, List<Long> seen, List<Long> want) {
        asked++;
        if (!seen.equals(want)) {
            wrong++;
            System.out.println(sentence + ": " + what + ": seen is " + seen + ", due is " + want);
        }
    }

    static void report(String test) {
        System.out.println(test + ": " + asked + " answers, " + wrong + " of them not as due");
        if (wrong != 0) {
            System.exit(1);
        }
    }

    static void typeAll(HubNetworks x, String text) {
        x.clearText();
        for (int i = 0; i < text.length(); i++) {
            due("type()", x.type(text.charAt(i)), i + 1);
        }
    }

    static HubNetworks typed(HubNetworks x, String text) {
        typeAll(x, text);
        return x;
    }

    /** One node, 0, of which nothing is 0. */
    static HubNetworks one() {
        HubNetworks x = new HubNetworks();
        x.addNode(5, 6, 7, 8);
        return x;
    }

    static HubNetworks square() {
        HubNetworks x = new HubNetworks();
        x.addNode(0, 0, 100, 500);
        x.addNode(10, 0, 200, 500);
        x.addNode(10, 10, 300, 500);
        x.addNode(0, 20, 50, 500);
        x.setFlow(0, 1, 10);
        x.setFlow(1, 2, 20);
        x.setFlow(3, 0, 5);
        x.setFlow(2, 3, 8);
        return x;
    }

    /** The square with the hubs 1 and 2, the node 0 under 1, and the node 3 under 2. */
    static HubNetworks planned() {
        HubNetworks x = square();
        x.setHub(1, true);
        x.setHub(2, true);
        x.assign(0, 1);
        x.assign(3, 2);
        return x;
    }

    /** Eight nodes in a row, 10 apart, with a flow of 1 from each to each other one, so 7 in all. */
    static HubNetworks eight() {
        HubNetworks x = new HubNetworks();
        for (int i = 0; i < 8; i++) {
            x.addNode(10 * i, 0, i + 1, 49);
        }
        flowsOfAll(x, 1);
        return x;
    }

    static HubNetworks eightHubs() {
        HubNetworks x = eight();
        for (int node = 0; node < 8; node++) {
            x.setHub(node, true);
        }
        return x;
    }

    static void flowsOfAll(HubNetworks x, int flow) {
        for (int a = 0; a < x.nodes(); a++) {
            for (int b = 0; b < x.nodes(); b++) {
                if (a != b) {
                    x.setFlow(a, b, flow);
                }
            }
        }
    }

    /** The digests of the state and of the history, the latest first; undoes it all. */
    static List<Long> past(HubNetworks x) {
        List<Long> digests = new ArrayList<>(List.of(x.digest()));
        int left = x.undo();
        for (int last = left; left >= 0; last = left) {
            digests.add(x.digest());
            left = x.undo();
            due("undo() after one that left " + last, left, last == 0 ? BAD_STATE : last - 1);
        }
        return digests;
    }

    /** All that can be seen of a network; undoes it all, and empties the text. */
    private static List<Long> everything(HubNetworks x) {
        List<Long> seen = new ArrayList<>(List.of((long) x.check(), (long) x.cost(0)));
        seen.addAll(past(x));
        seen.add((long) x.textFault());
        seen.add((long) x.run());
        seen.add(x.digest());
        seen.add((long) x.clearText());
        return seen;
    }

    /** The call gives this answer, changes nothing, and is not recorded. */
    static void asks(Supplier<HubNetworks> made, String call, ToLongFunction<HubNetworks> asks, long want) {
        HubNetworks x = made.get();
        due(call, asks.applyAsLong(x), want);
        same("all there is after " + call, everything(x), everything(made.get()));
    }

    /** The call returns this error, changes nothing, and is not recorded. */
    static void refused(Supplier<HubNetworks> made, String call, ToLongFunction<HubNetworks> asks, long want) {
        asks(made, call, asks, want);
    }

    /** The call gives this answer and is recorded, once, with the state before it; the text stays. */
    static void recorded(Supplier<HubNetworks> made, String call, ToLongFunction<HubNetworks> asks, long want) {
        HubNetworks x = made.get();
        due(call, asks.applyAsLong(x), want);
        List<Long> before = past(made.get());
        List<Long> after = past(x);
        same("what undo() finds after " + call, after.subList(1, after.size()),
            before.subList(0, Math.min(4, before.size())));
        due("clearText() after " + call, x.clearText(), made.get().clearText());
    }

    /** The call gives this answer and is recorded, though it changes nothing. */
    static void recordedOnly(Supplier<HubNetworks> made, String call, ToLongFunction<HubNetworks> asks, long want) {
        recorded(made, call, asks, want);
        HubNetworks x = made.get();
        asks.applyAsLong(x);
        due("digest() after " + call, x.digest(), made.get().digest());
    }

    /** The call is refused for each value outside of the range. */
    static void outside(Supplier<HubNetworks> made, String call, int low, int high, Argument argument, long want) {
        for (int value : new int[] {low - 1, high + 1, FAR_BELOW, FAR_ABOVE}) {
            refused(made, call.replace("?", String.valueOf(value)), x -> argument.in(x, value), want);
        }
    }
}
