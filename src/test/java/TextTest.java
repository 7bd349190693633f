/** The text: its length, its grammar byte by byte, and its commands. */
public final class TextTest extends Checks {
    private static final String DIGITS = "0123456789";

    public static void main(String[] args) {
        emptyText();
        fullText();
        clearedText();
        shortestCommands();
        endsTooEarly();
        everyByteAtTheBeginning();
        everyByteAfterALetter();
        everyByteInANumber();
        everyByteAfterABlank();
        everyByteAfterACommand();
        everyByteAfterASemicolon();
        numbersOfManyDigits();
        tooManyDigitsFirst();
        blanks();
        numbersOfEachCommand();
        longTexts();
        runOfFaults();
        runOfEachCommand();
        runOfNone();
        runUpToErrors();
        runOfNumbers();
        runOfLongTexts();
        textStays();
        report("TextTest");
    }

    private static void fault(String text, int want) {
        due("textFault() of \"" + text + "\"", typed(new HubNetworks(), text).textFault(), want);
    }

    /** The commands of a text, on a network, with how many were carried out. */
    private static void runs(HubNetworks x, String text, int want) {
        due("run() of \"" + text + "\"", typed(x, text).run(), want);
    }

    private static void emptyText() {
        says("the fault is the length of the text if the text ends too early (also if it is empty)");
        asks(HubNetworks::new, "textFault() of the empty text", HubNetworks::textFault, 0);
        asks(() -> typed(one(), ""), "textFault() of an emptied text", HubNetworks::textFault, 0);
        refused(() -> typed(one(), ""), "run() of an emptied text", HubNetworks::run, BAD_STATE);
    }

    private static HubNetworks blanks(int length) {
        return typed(one(), " ".repeat(length));
    }

    private static void fullText() {
        says("a text of at most 120 bytes; FULL if the text has 120 bytes");
        HubNetworks x = one();
        for (int length = 1; length <= 120; length++) {
            due("type(104)", x.type(104), length);
        }
        due("type(104) as byte 121", x.type(104), FULL);
        due("type(104) as byte 121 again", x.type(104), FULL);
        due("clearText()", x.clearText(), 120);
        due("type(104) afterwards", x.type(104), 1);
        refused(() -> blanks(120), "type(0) as byte 121", y -> y.type(0), FULL);
        refused(() -> blanks(120), "type(255) as byte 121", y -> y.type(255), FULL);
        asks(() -> typed(one(), "h 0"), "hubs() of a text that is not run", HubNetworks::hubs, 0);
        HubNetworks y = blanks(118);
        due("type(104) as byte 119", y.type(104), 119);
        due("type(48) as byte 120", y.type(48), 120);
        due("type(48) as byte 121", y.type(48), FULL);
        due("textFault() without byte 121", y.textFault(), NONE);
        due("run() without byte 121", y.run(), 1);
    }

    private static void clearedText() {
        says("clearText: empties the text, returns the length that it had");
        for (int length : new int[] {0, 1, 119, 120}) {
            HubNetworks x = blanks(length);
            due("clearText()", x.clearText(), length);
            due("clearText() again", x.clearText(), 0);
            due("textFault()", x.textFault(), 0);
            due("undo() of what was before", x.undo(), 0);
            due("undo() does not know of texts", x.undo(), BAD_STATE);
        }
    }

    private static void shortestCommands() {
        says("the five commands, as short and with as many blanks as can be");
        for (String text : new String[] {"n1 2 3 4", "f1 2 3", "h1", "u1", "a1 2"}) {
            fault(text, NONE);
            fault("  " + text, NONE);
            fault(text + "  ", NONE);
            fault(text.replace(" ", "   "), NONE);
            fault(text.charAt(0) + " " + text.substring(1), NONE);
            fault(text + ";" + text, NONE);
            fault(text + " ; " + text, NONE);
        }
    }

    private static void endsTooEarly() {
        says("the fault is the length of the text if the text ends too early");
        for (String text : new String[] {"n 1 2 3 4", "f 1 2 3", "h 1", "u 1", "a 1 2"}) {
            for (int end = 0; end < text.length(); end++) {
                fault(text.substring(0, end), end);
                fault("h 1;" + text.substring(0, end), 4 + end);
                fault(text.substring(0, end) + "  ", end + 2);
            }
            fault(text + ";", text.length() + 1);
            fault(text + " ; ", text.length() + 3);
        }
    }

    /**
     * Each byte after a text: some leave it too short, with some it is whole, and at all others is the fault.
     */
    private static void everyByte(String text, String more, String whole) {
        for (int code = 0; code < 256; code++) {
            HubNetworks x = typed(new HubNetworks(), text);
            x.type(code);
            int want = whole.indexOf(code) >= 0 ? NONE : text.length() + (more.indexOf(code) >= 0 ? 1 : 0);
            due("textFault() of \"" + text + "\" and the byte " + code, x.textFault(), want);
        }
    }

    private static void everyByteAtTheBeginning() {
        says("the fault is the index, from 0, of the first byte that cannot stand at its place: at the beginning");
        everyByte("", "nfhua ", "");
        everyByte("  ", "nfhua ", "");
    }

    private static void everyByteAfterALetter() {
        says("the first byte that cannot stand at its place: after a letter");
        for (String letter : new String[] {"n", "f", "a", "n ", "f  ", "a "}) {
            everyByte(letter, DIGITS + " ", "");
        }
        for (String letter : new String[] {"h", "u", "h ", "u  "}) {
            everyByte(letter, " ", DIGITS);
        }
    }

    private static void everyByteInANumber() {
        says("the first byte that cannot stand at its place: after a digit");
        for (String text : new String[] {"n 1", "n 1 2", "n 1 2 3", "f 1", "f 1 2", "a 1"}) {
            everyByte(text, DIGITS + " ", "");
        }
        for (String text : new String[] {"n 1 2 3 4", "f 1 2 3", "h 1", "u 1", "a 1 2"}) {
            everyByte(text, ";", DIGITS + " ");
        }
    }

    private static void everyByteAfterABlank() {
        says("the first byte that cannot stand at its place: after a number and a blank");
        for (String text : new String[] {"n 1 ", "n 1 2 ", "f 1  "}) {
            everyByte(text, DIGITS + " ", "");
        }
        for (String text : new String[] {"n 1 2 3 ", "f 1 2 ", "a 1  "}) {
            everyByte(text, " ", DIGITS);
        }
    }

    private static void everyByteAfterACommand() {
        says("the first byte that cannot stand at its place: after a command and a blank");
        for (String text : new String[] {"n 1 2 3 4 ", "f 1 2 3 ", "h 1 ", "u 1  ", "a 1 2 "}) {
            everyByte(text, ";", " ");
        }
    }

    private static void everyByteAfterASemicolon() {
        says("the first byte that cannot stand at its place: after a semicolon");
        everyByte("h 1;", "nfhua ", "");
        everyByte("h 1 ; ", "nfhua ", "");
    }

    private static void numbersOfManyDigits() {
        says("a number is a longest sequence of 1 to 6 digits");
        for (int digits = 1; digits <= 6; digits++) {
            for (String digit : new String[] {"0", "1", "9"}) {
                String number = digit.repeat(digits);
                fault("h " + number, NONE);
                fault("u" + number, NONE);
                fault("a " + number + " " + number, NONE);
                fault("f " + number + " " + number + " " + number, NONE);
                fault("n " + number + " " + number + " " + number + " " + number + ";h 1", NONE);
            }
        }
        says("between two numbers there must be a blank");
        fault("a 12", 4);
        fault("f 12 3", 6);
        fault("n 123 4 5", 9);
        fault("a 123456", 8);
    }

    private static void tooManyDigitsFirst() {
        says("for a number with more than 6 digits it is its first digit");
        for (int digits : new int[] {7, 8, 12, 100}) {
            for (String digit : new String[] {"0", "1", "9"}) {
                String number = digit.repeat(digits);
                fault("h" + number, 1);
                fault("h " + number, 2);
                fault("u  " + number, 3);
                fault("a " + number + " 1", 2);
                fault("a 1 " + number, 4);
                fault("f 1 2 " + number, 6);
                fault("n 1 2 3 " + number, 8);
                fault("h 1;h " + number + ";", 6);
                fault("h " + number + "x", 2);
            }
        }
        fault("h 0000001", 2);
        fault("h 999999", NONE);
        fault("h 1000000", 2);
        fault("n 123456 123456 123456 1234567", 23);
        says("a number that cannot stand at its place is a fault at its first digit");
        fault("1", 0);
        fault("1234567", 0);
        fault("h 1 1234567", 4);
        fault("h 1;1234567", 4);
        says("the first of several faults");
        fault("x 1234567", 0);
        fault("h 1234567;x", 2);
        fault("h 1x;y", 3);
        fault("hx1234567", 1);
    }

    private static void blanks() {
        says("blanks (32) can stand before and after letters, numbers and semicolons");
        fault("   n   1   2   3   4   ;   h   5   ", NONE);
        fault("h1;u2;a3 4;f5 6 7;n8 9 10 11", NONE);
        fault("h 1 2", 4);
        fault("h 1\t", 3);
        fault("\th 1", 0);
        fault("a 1\n2", 3);
        fault("a 1\u00a02", 3);
        fault("h\u00001", 1);
        fault(" ", 1);
        fault(" ".repeat(119), 119);
        fault(" ".repeat(120), 120);
    }

    private static void numbersOfEachCommand() {
        says("n has four numbers, f three, h one, u one, a two: one more is a fault");
        fault("n 1 2 3 4 5", 10);
        fault("f 1 2 3 4", 8);
        fault("h 1 2", 4);
        fault("u 1 2", 4);
        fault("a 1 2 3", 6);
        says("n has four numbers, f three, h one, u one, a two: one less is a fault");
        fault("n 1 2 3;h 1", 7);
        fault("f 1 2;h 1", 5);
        fault("h;h 1", 1);
        fault("u;h 1", 1);
        fault("a 1;h 1", 3);
        says("commands = command { \";\" command }");
        fault("h 1 h 1", 4);
        fault("h 1h 1", 3);
        fault("h 1;;h 1", 4);
        fault(";h 1", 0);
        fault("h 1;", 4);
    }

    private static void longTexts() {
        says("a text of 120 bytes with a fault at its end, or none");
        fault("h 0;".repeat(29) + "h 0 ", NONE);
        fault("h 0;".repeat(29) + "h  0", NONE);
        fault("h 0;".repeat(29) + "h 0x", 119);
        fault("h 0;".repeat(30), 120);
        fault("h1;".repeat(39) + "h12", NONE);
        fault("h1;".repeat(39) + "h1 ", NONE);
        fault("h1;".repeat(39) + "h1;", 120);
        fault("h1;".repeat(39) + "h1", NONE);
        fault(" ".repeat(113) + "h123456", NONE);
        fault(" ".repeat(112) + "h1234567", 113);
        fault(" ".repeat(111) + "n 1 2 3 4", NONE);
        fault(" ".repeat(112) + "n 1 2 3 ", 120);
        fault(" ".repeat(119) + "h", 120);
        fault(" ".repeat(119) + "x", 119);
        fault("h" + "1".repeat(119), 1);
    }

    private static void runOfFaults() {
        says("run: BAD_STATE if the text has a fault; then nothing is carried out");
        for (String text : new String[] {"", " ", "h 0;", "h 0;h", "h 0;x", "h 0;h 1234567", "h 0 1",
            "n 1 1 1 1;n 2 2 2", "u 1;h 0;f 0 1", "h 0".repeat(40)}) {
            refused(() -> typed(square(), text), "run() of \"" + text + "\"", HubNetworks::run, BAD_STATE);
        }
    }

    /** The text does what the call does. */
    private static void runLike(String text, Argument call) {
        recorded(() -> typed(planned(), text), "run() of " + text, HubNetworks::run, 1);
        HubNetworks x = planned();
        call.in(x, 0);
        HubNetworks y = typed(planned(), text);
        y.run();
        due("digest() after " + text, y.digest(), x.digest());
    }

    private static void runOfEachCommand() {
        says("n x y c q is addNode(x, y, c, q), f a b v is setFlow(a, b, v), h, u are setHub, a is assign");
        runLike("n 1 2 3 4", (x, v) -> x.addNode(1, 2, 3, 4));
        runLike("n 0 99 100000 9999", (x, v) -> x.addNode(0, 99, 100000, 9999));
        runLike("n 99 0 0 0", (x, v) -> x.addNode(99, 0, 0, 0));
        runLike("f 0 3 100", (x, v) -> x.setFlow(0, 3, 100));
        runLike("f 3 0 0", (x, v) -> x.setFlow(3, 0, 0));
        runLike("h 3", (x, v) -> x.setHub(3, true));
        runLike("h 1", (x, v) -> x.setHub(1, true));
        runLike("u 2", (x, v) -> x.setHub(2, false));
        runLike("u 0", (x, v) -> x.setHub(0, false));
        runLike("a 0 2", (x, v) -> x.assign(0, 2));
        runLike("a 3 1", (x, v) -> x.assign(3, 1));
    }

    private static void runOfNone() {
        says("run: a result of NONE is no error");
        HubNetworks x = square();
        runs(x, "h 1;a 0 1;a 3 1;f 0 3 9", 4);
        due("hubOf(3)", x.hubOf(3), 1);
        due("flow(0, 3)", x.flow(0, 3), 9);
        due("undo() of one call", x.undo(), 3);
        due("hubs() after undo()", x.hubs(), 0);
    }

    private static void runUpToErrors() {
        says("run: up to the first command that returns an error");
        String[] errors = {"h 4", "u 4", "a 0 4", "a 4 1", "f 0 4 1", "f 4 0 1", "h 999999", "f 0 1 101", "f 2 2 0",
            "n 100 0 0 0", "n 0 100 0 0", "n 0 0 100001 0", "n 0 0 0 10000", "n 999999 0 0 0", "a 1 2", "a 0 3",
            "a 0 0"};
        for (String error : errors) {
            recordedOnly(() -> typed(planned(), error), "run() of " + error, HubNetworks::run, 0);
            recordedOnly(() -> typed(planned(), error + ";u 1;n 1 1 1 1"), "run() from " + error, HubNetworks::run, 0);
            HubNetworks x = planned();
            runs(x, "f 0 3 7;f 3 0 7;" + error + ";f 0 3 8", 2);
            due("flow(0, 3) before it", x.flow(0, 3), 7);
            due("flow(3, 0) before it", x.flow(3, 0), 7);
            runs(x, "f 0 3 9;" + error, 1);
            due("flow(0, 3)", x.flow(0, 3), 9);
        }
        says("run: FULL ends it, too");
        recordedOnly(() -> typed(eight(), "n 1 1 1 1;u 0"), "run() with a ninth node", HubNetworks::run, 0);
        HubNetworks x = new HubNetworks();
        runs(x, "n 1 1 1 1;".repeat(9) + "n 1 1 1 1", 8);
        due("nodes()", x.nodes(), 8);
        due("undo() of one call", x.undo(), 0);
        due("nodes()", x.nodes(), 0);
    }

    private static void runOfNumbers() {
        says("run: numbers of 6 digits, and zeros before them");
        HubNetworks x = new HubNetworks();
        runs(x, "n 000099 000000 100000 009999;h 000000", 2);
        due("node(0, 0)", x.node(0, 0), 99);
        due("node(0, 1)", x.node(0, 1), 0);
        due("node(0, 2)", x.node(0, 2), 100000);
        due("node(0, 3)", x.node(0, 3), 9999);
        due("hubs()", x.hubs(), 1);
        runs(x, "n 1 2 012345 6789", 1);
        due("node(1, 2)", x.node(1, 2), 12345);
        due("node(1, 3)", x.node(1, 3), 6789);
    }

    private static void runOfLongTexts() {
        says("run: as many commands as 120 bytes can hold, recorded as one call");
        recorded(() -> typed(square(), "h1;".repeat(39) + "u12"), "run() of 40 commands, the last one an error",
            HubNetworks::run, 39);
        recordedOnly(() -> typed(square(), "h1;u1;".repeat(20).substring(0, 119)), "run() of 40 commands",
            HubNetworks::run, 40);
        refused(() -> typed(new HubNetworks(), "n1 1 1 1;".repeat(8) + "h0;".repeat(16)),
            "run() with a fault at the end", HubNetworks::run, BAD_STATE);
    }

    private static void textStays() {
        says("run: the text stays; the history holds all but the text");
        HubNetworks x = typed(square(), "f 0 1 77");
        due("run()", x.run(), 1);
        due("flow(0, 1)", x.flow(0, 1), 77);
        due("undo()", x.undo(), 3);
        due("flow(0, 1) after undo()", x.flow(0, 1), 10);
        due("textFault() after undo()", x.textFault(), NONE);
        due("run() after undo()", x.run(), 1);
        due("flow(0, 1)", x.flow(0, 1), 77);
        due("run() once more", x.run(), 1);
        due("clearText()", x.clearText(), 8);
        due("undo() after clearText()", x.undo(), 3);
        due("clearText() after undo()", x.clearText(), 0);
        due("run() after clearText()", x.run(), BAD_STATE);
    }
}
