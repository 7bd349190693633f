import java.util.Random;

/** Long runs of calls, always the same ones, each answered as the Reference answers it. */
public final class RandomRunsTest {
    // An object is used for at most 512 calls; a text and its run() need the last ones.
    private static final int MOST_CALLS = 512;
    private static final int MOST_SHOWN = 20;

    private final Random random;
    private final HubNetworks made = new HubNetworks();
    private final Reference due = new Reference();
    private final int seed;
    private final int mostNodes;
    private final int places;
    private final int flows;
    private final int capacities;
    private final int openings;
    private final int rareBest;
    private int calls;
    private static int wrong;
    private static int compared;

    private RandomRunsTest(int seed) {
        this.seed = seed;
        random = new Random(seed);
        // Most runs stay small, because the Reference lists every plan.
        mostNodes = seed % 20 == 0 ? 8 : seed % 5 == 0 ? 7 : 2 + random.nextInt(5);
        rareBest = mostNodes == 8 ? 12 : mostNodes == 7 ? 4 : 1;
        places = pick(1, 2, 4, 20, 99, 99);
        flows = pick(1, 5, 100, 100);
        capacities = pick(30, 100, 300, 700, 9999);
        openings = pick(0, 5, 3000, 100000);
    }

    public static void main(String[] args) {
        int runs = args.length == 0 ? 1500 : Integer.parseInt(args[0]);
        for (int seed = 0; seed < runs; seed++) {
            new RandomRunsTest(seed).go();
        }
        System.out.println("RandomRunsTest: " + compared + " answers, " + wrong + " of them not as due");
        if (wrong != 0) {
            System.exit(1);
        }
    }

    private int pick(int... values) {
        return values[random.nextInt(values.length)];
    }

    private void go() {
        for (int i = 0; i < mostNodes; i++) {
            addNode();
        }
        for (int i = random.nextInt(mostNodes * mostNodes + 1); i > 0; i--) {
            setFlow();
        }
        while (calls < MOST_CALLS - 3) {
            call();
            same("digest()", made.digest(), due.digest());
        }
    }

    private void same(String call, long answer, long want) {
        compared++;
        calls++;
        if (answer != want && wrong++ < MOST_SHOWN) {
            System.out.println("run " + seed + ": " + call + " answered " + answer + ", due is " + want);
        }
    }

    /** A value of the range, rarely one at its ends or just outside. */
    private int value(int low, int high) {
        switch (random.nextInt(40)) {
            case 0: return low - 1;
            case 1: return high + 1;
            case 2: return low;
            case 3: return high;
            case 4: return pick(Integer.MIN_VALUE, Integer.MAX_VALUE, 1000, -2);
            default: return low + random.nextInt(high - low + 1);
        }
    }

    private int someNode() {
        return due.nodes() == 0 ? value(0, 1) : value(0, due.nodes() - 1);
    }

    private int hub() {
        int node = someNode();
        for (int i = 0; i < 6 && node >= 0 && node < 8 && (due.hubs() >> node & 1) == 0; i++) {
            node = someNode();
        }
        return node;
    }

    private void addNode() {
        int x = value(0, places), y = value(0, places), c = value(0, openings), q = value(0, capacities);
        same("addNode(" + x + ", " + y + ", " + c + ", " + q + ")",
            made.addNode(x, y, c, q), due.addNode(x, y, c, q));
    }

    private void setFlow() {
        int a = someNode(), b = someNode(), v = value(0, flows);
        same("setFlow(" + a + ", " + b + ", " + v + ")", made.setFlow(a, b, v), due.setFlow(a, b, v));
    }

    private void call() {
        int kind = random.nextInt(100);
        if (kind < 35) {
            change();
        } else if (kind < 75) {
            ask();
        } else if (kind < 85) {
            text();
        } else if (kind < 90) {
            same("undo()", made.undo(), due.undo());
        } else if (random.nextInt(rareBest) == 0) {
            bestPlans();
        }
    }

    private void change() {
        int a = someNode(), b = hub();
        switch (random.nextInt(8)) {
            case 0: {
                if (due.nodes() < mostNodes || mostNodes == 8) {
                    addNode();
                }
                break;
            }
            case 1: setFlow(); break;
            case 2: {
                int c = value(0, openings), q = value(0, capacities);
                same("setNode(" + a + ", " + c + ", " + q + ")", made.setNode(a, c, q), due.setNode(a, c, q));
                break;
            }
            case 3: {
                int c = value(1, pick(2, 300)), t = value(0, pick(1, 100)), d = value(1, pick(2, 300));
                int min = value(0, pick(1, 50, 500, 9999));
                same("setFactors(" + c + ", " + t + ", " + d + ", " + min + ")",
                    made.setFactors(c, t, d, min), due.setFactors(c, t, d, min));
                break;
            }
            case 4: {
                int s = value(0, pick(5, 100, 1000)), r = value(0, 1000);
                int s2 = value(0, pick(100, 1000, 9999)), r2 = value(0, 1000);
                same("setCongestion(" + s + ", " + r + ", " + s2 + ", " + r2 + ")",
                    made.setCongestion(s, r, s2, r2), due.setCongestion(s, r, s2, r2));
                break;
            }
            case 5: {
                boolean hub = random.nextInt(3) != 0;
                same("setHub(" + a + ", " + hub + ")", made.setHub(a, hub), due.setHub(a, hub));
                break;
            }
            default: same("assign(" + a + ", " + b + ")", made.assign(a, b), due.assign(a, b));
        }
    }

    private void ask() {
        int a = someNode(), b = someNode(), k = hub(), m = hub(), what = value(0, 5);
        switch (random.nextInt(14)) {
            case 0: same("node(" + a + ", " + what + ")", made.node(a, what), due.node(a, what)); break;
            case 1: same("flow(" + a + ", " + b + ")", made.flow(a, b), due.flow(a, b)); break;
            case 2: same("distance(" + a + ", " + b + ")", made.distance(a, b), due.distance(a, b)); break;
            case 3: same("hubOf(" + a + ")", made.hubOf(a), due.hubOf(a)); break;
            case 4: same("check()", made.check(), due.check()); break;
            case 5: same("load(" + k + ")", made.load(k), due.load(k)); break;
            case 6: same("trunk(" + k + ", " + m + ")", made.trunk(k, m), due.trunk(k, m)); break;
            case 7: same("cost(" + what + ")", made.cost(what), due.cost(what)); break;
            case 8: {
                int index = value(0, 4);
                same("path(" + a + ", " + b + ", " + index + ")",
                    made.path(a, b, index), due.path(a, b, index));
                break;
            }
            case 9: same("change(" + a + ", " + k + ")", made.change(a, k), due.change(a, k)); break;
            case 10: {
                int which = value(0, 2);
                same("cheapest(" + a + ", " + b + ", " + which + ")",
                    made.cheapest(a, b, which), due.cheapest(a, b, which));
                break;
            }
            case 11: same("hubBound()", made.hubBound(), due.hubBound()); break;
            case 12: {
                int count = value(0, due.nodes());
                same("bound(" + count + ")", made.bound(count), due.bound(count));
                break;
            }
            default: {
                int mask = value(1, (1 << due.nodes()));
                same("feasible(" + mask + ")", made.feasible(mask), due.feasible(mask));
            }
        }
    }

    private void bestPlans() {
        int mask = value(1, (1 << due.nodes()));
        int count = value(0, random.nextInt(4) == 0 ? 8 : due.nodes());
        switch (random.nextInt(6)) {
            case 0: same("settle()", made.settle(), due.settle()); break;
            case 1: same("best(" + count + ")", made.best(count), due.best(count)); break;
            case 2: same("adopt(" + count + ")", made.adopt(count), due.adopt(count)); break;
            case 3: same("improve()", made.improve(), due.improve()); break;
            default: same("least(" + mask + ")", made.least(mask), due.least(mask));
        }
    }

    private void text() {
        if (random.nextInt(4) != 0) {
            same("clearText()", made.clearText(), due.clearText());
        }
        String text = commands();
        for (int i = 0; i < text.length() && calls < MOST_CALLS - 4; i++) {
            int code = random.nextInt(300) == 0 ? value(0, 255) : text.charAt(i);
            same("type(" + code + ")", made.type(code), due.type(code));
        }
        same("textFault() of " + text, made.textFault(), due.textFault());
        same("run() of " + text, made.run(), due.run());
    }

    private String commands() {
        StringBuilder text = new StringBuilder();
        for (int i = 1 + random.nextInt(8); i > 0; i--) {
            blanks(text, 0);
            command(text);
            if (i > 1 || random.nextInt(20) == 0) {
                text.append(';');
            }
        }
        if (random.nextInt(4) == 0) {
            text.setCharAt(random.nextInt(text.length()),
                "nfhua; 0123456789x#N\u0000\t\u00ff".charAt(random.nextInt(23)));
        }
        return text.toString();
    }

    private void command(StringBuilder text) {
        int a = random.nextInt(8), b = random.nextInt(8);
        switch (random.nextInt(6)) {
            case 0: {
                if (due.nodes() < mostNodes) {
                    word(text, 'n', a, b, random.nextInt(3000), random.nextInt(500));
                } else {
                    word(text, 'h', a);
                }
                break;
            }
            case 1: word(text, 'f', a, b, random.nextInt(102)); break;
            case 2: word(text, 'h', a); break;
            case 3: word(text, 'u', a); break;
            default: word(text, 'a', a, b);
        }
    }

    private void word(StringBuilder text, char letter, int... numbers) {
        text.append(letter);
        for (int i = 0; i < numbers.length; i++) {
            blanks(text, i == 0 || random.nextInt(50) == 0 ? 0 : 1);
            if (random.nextInt(50) == 0) {
                text.append("0000000", 0, 4 + random.nextInt(3));
            }
            text.append(numbers[i]);
        }
        blanks(text, 0);
    }

    private void blanks(StringBuilder text, int least) {
        for (int i = least + (random.nextInt(3) == 0 ? random.nextInt(3) : 0); i > 0; i--) {
            text.append(' ');
        }
    }
}
