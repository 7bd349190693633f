import java.util.ArrayDeque;
import java.util.ArrayList;
import java.util.Arrays;
import java.util.Deque;
import java.util.List;

/**
 * The document once more, written as slowly and as literally as possible: every plan is listed,
 * every flow is priced by itself, and nothing is remembered. RandomRunsTest compares with it.
 */
final class Reference {
    private static final int NONE = -1, BAD_INDEX = -2, BAD_VALUE = -3, BAD_STATE = -4, FULL = -5;

    private static final class Node {
        int x, y, opening, capacity, hub = NONE;
        boolean isHub;
        final int[] flowTo = new int[8];

        Node copy() {
            Node other = new Node();
            other.x = x;
            other.y = y;
            other.opening = opening;
            other.capacity = capacity;
            other.hub = hub;
            other.isHub = isHub;
            System.arraycopy(flowTo, 0, other.flowTo, 0, 8);
            return other;
        }
    }

    private record Snapshot(List<Node> nodes, int[] settings) { }

    record Plan(int cost, int mask, int[] at) {
        boolean betterThan(Plan other) {
            if (other == null) {
                return true;
            }
            if (cost != other.cost) {
                return cost < other.cost;
            }
            if (mask != other.mask) {
                return mask < other.mask;
            }
            return Arrays.compare(at, other.at) < 0;
        }
    }

    private List<Node> nodes = new ArrayList<>();
    // C, T, D, the trunk minimum, S1, R1, S2, R2
    private int[] settings = {100, 50, 100, 0, 9999, 0, 9999, 0};
    private final Deque<Snapshot> history = new ArrayDeque<>();
    private String text = "";

    private Snapshot snapshot() {
        List<Node> copies = new ArrayList<>();
        for (Node node : nodes) {
            copies.add(node.copy());
        }
        return new Snapshot(copies, settings.clone());
    }

    private int recorded(Snapshot before, int result) {
        if (result >= NONE) {
            history.addLast(before);
            if (history.size() > 4) {
                history.removeFirst();
            }
        }
        return result;
    }

    private boolean is(int node) {
        return 0 <= node && node < nodes.size();
    }

    private static boolean out(int value, int low, int high) {
        return value < low || value > high;
    }

    int addNode(int x, int y, int opening, int capacity) {
        return recorded(snapshot(), add(x, y, opening, capacity));
    }

    private int add(int x, int y, int opening, int capacity) {
        if (out(x, 0, 99) || out(y, 0, 99) || out(opening, 0, 100000) || out(capacity, 0, 9999)) {
            return BAD_VALUE;
        }
        if (nodes.size() == 8) {
            return FULL;
        }
        Node node = new Node();
        node.x = x;
        node.y = y;
        node.opening = opening;
        node.capacity = capacity;
        nodes.add(node);
        return nodes.size() - 1;
    }

    int setFlow(int from, int to, int flow) {
        return recorded(snapshot(), flowTo(from, to, flow));
    }

    private int flowTo(int from, int to, int flow) {
        if (!is(from) || !is(to)) {
            return BAD_INDEX;
        }
        if (from == to || out(flow, 0, 100)) {
            return BAD_VALUE;
        }
        int old = nodes.get(from).flowTo[to];
        nodes.get(from).flowTo[to] = flow;
        return old;
    }

    int setNode(int node, int opening, int capacity) {
        if (!is(node)) {
            return BAD_INDEX;
        }
        if (out(opening, 0, 100000) || out(capacity, 0, 9999)) {
            return BAD_VALUE;
        }
        Snapshot before = snapshot();
        int old = nodes.get(node).opening;
        nodes.get(node).opening = opening;
        nodes.get(node).capacity = capacity;
        return recorded(before, old);
    }

    int setFactors(int collecting, int trunk, int distributing, int minimum) {
        if (out(collecting, 1, 300) || out(trunk, 0, 100) || out(distributing, 1, 300) || out(minimum, 0, 9999)) {
            return BAD_VALUE;
        }
        Snapshot before = snapshot();
        int old = settings[1];
        settings = new int[] {collecting, trunk, distributing, minimum,
            settings[4], settings[5], settings[6], settings[7]};
        return recorded(before, old);
    }

    int setCongestion(int first, int firstRate, int second, int secondRate) {
        if (out(first, 0, 9999) || out(firstRate, 0, 1000) || out(second, 0, 9999) || out(secondRate, 0, 1000)
                || first > second) {
            return BAD_VALUE;
        }
        Snapshot before = snapshot();
        int old = settings[4];
        settings = new int[] {settings[0], settings[1], settings[2], settings[3],
            first, firstRate, second, secondRate};
        return recorded(before, old);
    }

    int nodes() {
        return nodes.size();
    }

    int node(int node, int what) {
        if (!is(node)) {
            return BAD_INDEX;
        }
        Node n = nodes.get(node);
        int to = 0;
        for (Node other : nodes) {
            to += other.flowTo[node];
        }
        int[] properties = {n.x, n.y, n.opening, n.capacity, Arrays.stream(n.flowTo).sum(), to};
        return out(what, 0, 5) ? BAD_VALUE : properties[what];
    }

    int flow(int from, int to) {
        return is(from) && is(to) ? nodes.get(from).flowTo[to] : BAD_INDEX;
    }

    int distance(int one, int other) {
        return is(one) && is(other) ? gap(one, other) : BAD_INDEX;
    }

    private int gap(int one, int other) {
        Node a = nodes.get(one);
        Node b = nodes.get(other);
        return Math.max(a.x, b.x) - Math.min(a.x, b.x) + Math.max(a.y, b.y) - Math.min(a.y, b.y);
    }

    int setHub(int node, boolean hub) {
        return recorded(snapshot(), makeHub(node, hub));
    }

    private int makeHub(int node, boolean hub) {
        if (!is(node)) {
            return BAD_INDEX;
        }
        Node n = nodes.get(node);
        int old = n.isHub ? 1 : 0;
        if (n.isHub && !hub) {
            for (Node other : nodes) {
                if (other.hub == node) {
                    other.hub = NONE;
                }
            }
        }
        if (!n.isHub && hub) {
            n.hub = node;
        }
        n.isHub = hub;
        return old;
    }

    int assign(int node, int hub) {
        return recorded(snapshot(), putUnder(node, hub));
    }

    private int putUnder(int node, int hub) {
        if (!is(node) || !is(hub)) {
            return BAD_INDEX;
        }
        if (nodes.get(node).isHub || !nodes.get(hub).isHub) {
            return BAD_STATE;
        }
        int old = nodes.get(node).hub;
        nodes.get(node).hub = hub;
        return old;
    }

    int hubs() {
        int mask = 0;
        for (int i = 0; i < nodes.size(); i++) {
            if (nodes.get(i).isHub) {
                mask += 1 << i;
            }
        }
        return mask;
    }

    int hubOf(int node) {
        return is(node) ? nodes.get(node).hub : BAD_INDEX;
    }

    private int[] assignment() {
        return nodes.stream().mapToInt(n -> n.hub).toArray();
    }

    private boolean complete() {
        return hubs() != 0 && nodes.stream().noneMatch(n -> n.hub == NONE);
    }

    int check() {
        if (!complete()) {
            return 1;
        }
        return isFeasible(hubs(), assignment()) ? 0 : 2;
    }

    private boolean isFeasible(int mask, int[] at) {
        for (int hub = 0; hub < nodes.size(); hub++) {
            if ((mask & 1 << hub) != 0 && loadOf(hub, at) > nodes.get(hub).capacity) {
                return false;
            }
        }
        return true;
    }

    private int loadOf(int hub, int[] at) {
        int sum = 0;
        for (int a = 0; a < at.length; a++) {
            if (at[a] == hub) {
                sum += Arrays.stream(nodes.get(a).flowTo).sum();
            }
        }
        return sum;
    }

    private int between(int k, int m, int[] at) {
        int sum = 0;
        for (int a = 0; a < at.length; a++) {
            for (int b = 0; b < at.length; b++) {
                if (at[a] == k && at[b] == m) {
                    sum += nodes.get(a).flowTo[b];
                }
            }
        }
        return sum;
    }

    int load(int hub) {
        if (!is(hub)) {
            return BAD_INDEX;
        }
        return nodes.get(hub).isHub ? loadOf(hub, assignment()) : BAD_STATE;
    }

    int trunk(int from, int to) {
        if (!is(from) || !is(to)) {
            return BAD_INDEX;
        }
        if (!nodes.get(from).isHub || !nodes.get(to).isHub || from == to) {
            return BAD_STATE;
        }
        return between(from, to, assignment());
    }

    /** The whole cost and its five parts. */
    private int[] costs(int mask, int[] at) {
        int[] costs = new int[6];
        int[][] trunks = new int[8][8];
        for (int a = 0; a < at.length; a++) {
            for (int b = 0; b < at.length; b++) {
                trunks[at[a]][at[b]] += nodes.get(a).flowTo[b];
            }
        }
        for (int a = 0; a < at.length; a++) {
            for (int b = 0; b < at.length; b++) {
                int flow = nodes.get(a).flowTo[b];
                int k = at[a];
                int m = at[b];
                costs[1] += settings[0] * flow * gap(a, k);
                if (k != m) {
                    costs[2] += (trunks[k][m] >= settings[3] ? settings[1] : 100) * flow * gap(k, m);
                }
                costs[3] += settings[2] * flow * gap(m, b);
            }
        }
        for (int hub = 0; hub < at.length; hub++) {
            if ((mask & 1 << hub) != 0) {
                int load = loadOf(hub, at);
                costs[4] += nodes.get(hub).opening;
                if (load > settings[4]) {
                    costs[5] += (load - settings[4]) * settings[5];
                }
                if (load > settings[6]) {
                    costs[5] += (load - settings[6]) * settings[7];
                }
            }
        }
        costs[0] = costs[1] + costs[2] + costs[3] + costs[4] + costs[5];
        return costs;
    }

    int cost(int what) {
        if (out(what, 0, 5)) {
            return BAD_VALUE;
        }
        return complete() ? costs(hubs(), assignment())[what] : BAD_STATE;
    }

    int path(int from, int to, int index) {
        if (!is(from) || !is(to)) {
            return BAD_INDEX;
        }
        if (from == to || index < 0) {
            return BAD_VALUE;
        }
        if (hubOf(from) == NONE || hubOf(to) == NONE) {
            return BAD_STATE;
        }
        List<Integer> path = new ArrayList<>();
        for (int node : new int[] {from, hubOf(from), hubOf(to), to}) {
            if (path.isEmpty() || path.get(path.size() - 1) != node) {
                path.add(node);
            }
        }
        return index < path.size() ? path.get(index) : NONE;
    }

    int change(int node, int hub) {
        if (!is(node) || !is(hub)) {
            return BAD_INDEX;
        }
        if (nodes.get(node).isHub || !nodes.get(hub).isHub || !complete()) {
            return BAD_STATE;
        }
        int[] other = assignment();
        other[node] = hub;
        return costs(hubs(), other)[0] - costs(hubs(), assignment())[0] + 1000000000;
    }

    private List<int[]> assignments(int mask) {
        List<int[]> all = new ArrayList<>();
        int n = nodes.size();
        int[] at = new int[n];
        list(mask, 0, at, all);
        return all;
    }

    private void list(int mask, int node, int[] at, List<int[]> all) {
        if (node == at.length) {
            all.add(at.clone());
            return;
        }
        for (int hub = 0; hub < at.length; hub++) {
            boolean mayBe = (mask & 1 << node) != 0 ? hub == node : (mask & 1 << hub) != 0;
            if (mayBe) {
                at[node] = hub;
                list(mask, node + 1, at, all);
            }
        }
    }

    Plan bestWith(int mask) {
        Plan best = null;
        for (int[] at : assignments(mask)) {
            if (isFeasible(mask, at)) {
                Plan plan = new Plan(costs(mask, at)[0], mask, at);
                best = plan.betterThan(best) ? plan : best;
            }
        }
        return best;
    }

    Plan bestOf(int count) {
        Plan best = null;
        // From the greatest mask down, so that the order of the masks decides by itself.
        for (int mask = (1 << nodes.size()) - 1; mask > 0; mask--) {
            if (count == 0 || Integer.bitCount(mask) == count) {
                Plan plan = bestWith(mask);
                best = plan != null && plan.betterThan(best) ? plan : best;
            }
        }
        return best;
    }

    private void make(Plan plan) {
        if (plan != null) {
            for (int i = 0; i < nodes.size(); i++) {
                nodes.get(i).isHub = (plan.mask & 1 << i) != 0;
                nodes.get(i).hub = plan.at[i];
            }
        }
    }

    int settle() {
        if (hubs() == 0) {
            return BAD_STATE;
        }
        Snapshot before = snapshot();
        Plan plan = bestWith(hubs());
        make(plan);
        return recorded(before, plan == null ? NONE : plan.cost);
    }

    int least(int mask) {
        if (out(mask, 1, (1 << nodes.size()) - 1)) {
            return BAD_VALUE;
        }
        Plan plan = bestWith(mask);
        return plan == null ? NONE : plan.cost;
    }

    int best(int count) {
        if (out(count, 0, 8)) {
            return BAD_VALUE;
        }
        Plan plan = bestOf(count);
        return plan == null ? NONE : plan.cost;
    }

    int adopt(int count) {
        if (out(count, 0, 8)) {
            return BAD_VALUE;
        }
        Snapshot before = snapshot();
        Plan plan = bestOf(count);
        make(plan);
        return recorded(before, plan == null ? NONE : plan.mask);
    }

    int improve() {
        if (hubs() == 0) {
            return BAD_STATE;
        }
        Snapshot before = snapshot();
        int mask = hubs();
        int steps = 0;
        while (true) {
            Plan present = bestWith(mask);
            Plan least = null;
            for (int node = 0; node < nodes.size(); node++) {
                int other = mask ^ 1 << node;
                Plan plan = other == 0 ? null : bestWith(other);
                if (plan != null && (least == null || plan.cost < least.cost)) {
                    least = plan;
                }
            }
            if (least == null || present != null && least.cost >= present.cost) {
                make(present);
                return recorded(before, steps);
            }
            mask = least.mask;
            steps++;
        }
    }

    /** The cost, k and m, or null if the mask is empty. */
    private int[] pair(int from, int to, int mask) {
        int[] best = null;
        for (int k = 0; k < nodes.size(); k++) {
            for (int m = 0; m < nodes.size(); m++) {
                if ((mask & 1 << k) != 0 && (mask & 1 << m) != 0) {
                    int cost = settings[0] * gap(from, k) + settings[1] * gap(k, m) + settings[2] * gap(m, to);
                    if (best == null || cost < best[0]) {
                        best = new int[] {cost, k, m};
                    }
                }
            }
        }
        return best;
    }

    int cheapest(int from, int to, int what) {
        if (!is(from) || !is(to)) {
            return BAD_INDEX;
        }
        if (out(what, 0, 2)) {
            return BAD_VALUE;
        }
        return hubs() == 0 ? BAD_STATE : pair(from, to, hubs())[what];
    }

    private int allFlows(int mask) {
        int sum = 0;
        for (int a = 0; a < nodes.size(); a++) {
            for (int b = 0; b < nodes.size(); b++) {
                sum += nodes.get(a).flowTo[b] * pair(a, b, mask)[0];
            }
        }
        return sum;
    }

    int hubBound() {
        if (hubs() == 0) {
            return BAD_STATE;
        }
        return allFlows(hubs()) + nodes.stream().filter(n -> n.isHub).mapToInt(n -> n.opening).sum();
    }

    int bound(int count) {
        if (out(count, 0, nodes.size())) {
            return BAD_VALUE;
        }
        return allFlows((1 << nodes.size()) - 1)
            + nodes.stream().mapToInt(n -> n.opening).sorted().limit(Math.max(count, 1)).sum();
    }

    int feasible(int mask) {
        if (out(mask, 1, (1 << nodes.size()) - 1)) {
            return BAD_VALUE;
        }
        return (int) assignments(mask).stream().filter(at -> isFeasible(mask, at)).count();
    }

    int type(int code) {
        if (out(code, 0, 255)) {
            return BAD_VALUE;
        }
        if (text.length() == 120) {
            return FULL;
        }
        text += (char) code;
        return text.length();
    }

    int clearText() {
        int length = text.length();
        text = "";
        return length;
    }

    private static final String[] SHAPES = {"n####", "f###", "h#", "u#", "a##"};

    /** What may follow in a command of which this has been read, as a string of n f h u a # ; signs. */
    private static String next(String command) {
        StringBuilder signs = new StringBuilder();
        for (String shape : SHAPES) {
            if (shape.equals(command)) {
                return ";";
            }
            if (shape.startsWith(command)) {
                signs.append(shape.charAt(command.length()));
            }
        }
        return signs.toString();
    }

    /** Reads sign by sign; a number is cut out whole. Fills words with the letters and numbers. */
    private int fault(List<String> words) {
        String command = "";
        int i = 0;
        while (i < text.length()) {
            char c = text.charAt(i);
            int end = i + 1;
            String sign = String.valueOf(c);
            if (c >= '0' && c <= '9') {
                while (end < text.length() && text.charAt(end) >= '0' && text.charAt(end) <= '9') {
                    end++;
                }
                sign = end - i <= 6 ? "#" : "too long";
            } else if (c == '#') {
                sign = "no number";
            }
            if (c != ' ') {
                if (!next(command).contains(sign)) {
                    return i;
                }
                command = c == ';' ? "" : command + sign;
                words.add(text.substring(i, end));
            }
            i = end;
        }
        return next(command).equals(";") ? NONE : text.length();
    }

    int textFault() {
        return fault(new ArrayList<>());
    }

    int run() {
        List<String> words = new ArrayList<>();
        if (fault(words) != NONE) {
            return BAD_STATE;
        }
        Snapshot before = snapshot();
        int done = 0;
        for (String command : String.join(" ", words).split(" ; ")) {
            if (carryOut(command.split(" ")) < NONE) {
                break;
            }
            done++;
        }
        return recorded(before, done);
    }

    private int carryOut(String[] words) {
        int[] v = new int[4];
        for (int i = 1; i < words.length; i++) {
            v[i - 1] = Integer.parseInt(words[i]);
        }
        return switch (words[0]) {
            case "n" -> add(v[0], v[1], v[2], v[3]);
            case "f" -> flowTo(v[0], v[1], v[2]);
            case "h" -> makeHub(v[0], true);
            case "u" -> makeHub(v[0], false);
            case "a" -> putUnder(v[0], v[1]);
            default -> throw new IllegalStateException(words[0]);
        };
    }

    int undo() {
        if (history.isEmpty()) {
            return BAD_STATE;
        }
        Snapshot latest = history.removeLast();
        nodes = latest.nodes;
        settings = latest.settings;
        return history.size();
    }

    long digest() {
        List<Integer> values = new ArrayList<>();
        values.add(nodes());
        for (int node = 0; node < nodes(); node++) {
            for (int what = 0; what < 6; what++) {
                values.add(node(node, what));
            }
            values.add(hubOf(node));
        }
        for (int a = 0; a < nodes(); a++) {
            for (int b = 0; b < nodes(); b++) {
                values.add(flow(a, b));
            }
        }
        values.add(hubs());
        for (int setting : settings) {
            values.add(setting);
        }
        long h = 7;
        for (int v : values) {
            h = 31 * h + v;
        }
        return h;
    }
}
