import java.io.IOException;
import java.lang.reflect.Constructor;
import java.lang.reflect.Field;
import java.lang.reflect.Method;
import java.lang.reflect.Modifier;
import java.nio.charset.StandardCharsets;
import java.nio.file.Files;
import java.nio.file.Path;
import java.util.ArrayList;
import java.util.List;
import java.util.Set;
import java.util.TreeSet;
import java.util.regex.Matcher;
import java.util.regex.Pattern;

/** The face of the class, and those rules of LANGUAGE.md that its text or its members show. */
public final class RulesTest {
    private static final Path SOURCE = Path.of("src/main/java/HubNetworks.java");
    private static final String[] FACE = {
        "int addNode(int, int, int, int)", "int setFlow(int, int, int)", "int setNode(int, int, int)",
        "int setFactors(int, int, int, int)", "int setCongestion(int, int, int, int)", "int nodes()",
        "int node(int, int)", "int flow(int, int)", "int distance(int, int)", "int setHub(int, boolean)",
        "int assign(int, int)", "int hubs()", "int hubOf(int)", "int check()", "int load(int)",
        "int trunk(int, int)", "int cost(int)", "int path(int, int, int)", "int change(int, int)",
        "int settle()", "int least(int)", "int best(int)", "int adopt(int)", "int improve()",
        "int cheapest(int, int, int)", "int hubBound()", "int bound(int)", "int feasible(int)",
        "int type(int)", "int clearText()", "int textFault()", "int run()", "int undo()", "long digest()"};
    private static final String[] CONSTANTS = {"NONE", "BAD_INDEX", "BAD_VALUE", "BAD_STATE", "FULL"};
    private static final String[] FORBIDDEN = {"\\bthrows?\\b", "\\btry\\b", "\\bcatch\\b", "\\bsynchronized\\b",
        "\\bassert\\b", "->", "::", "\\bequals\\b", "\\bhashCode\\b", "\\btoString\\b", "Exact\\b",
        "\\bSystem\\.(?!arraycopy\\b)", "\\bstatic\\s*\\{", "\\bRandom\\b", "\\bThread\\b", "\\bpackage\\b",
        "\\bimport (?!java\\.util\\.(Arrays|ArrayList|List|Iterator);)", "\\binstanceof\\b", "\\bvar\\b",
        // Booleans are joined by && and || alone.
        "[&|^]= [^;]*(<=|>=|==|!=|&&|\\|\\||\\btrue\\b|\\bfalse\\b)"};
    private static int wrong;

    public static void main(String[] args) throws IOException {
        Class<HubNetworks> made = HubNetworks.class;
        face(made);
        for (Class<?> inside : made.getDeclaredClasses()) {
            nested(inside);
        }
        names(made);
        source(Files.readString(SOURCE));
        System.out.println("RulesTest: " + wrong + " faults");
        if (wrong != 0) {
            System.exit(1);
        }
    }

    private static void must(boolean holds, String rule) {
        if (!holds) {
            wrong++;
            System.out.println("not so: " + rule);
        }
    }

    private static String signature(Method method) {
        List<String> types = new ArrayList<>();
        for (Class<?> type : method.getParameterTypes()) {
            types.add(type.getSimpleName());
        }
        return method.getReturnType().getSimpleName() + " " + method.getName()
            + "(" + String.join(", ", types) + ")";
    }

    private static void face(Class<?> made) {
        must(Modifier.isPublic(made.getModifiers()) && Modifier.isFinal(made.getModifiers()),
            "the class is public and final");
        Set<String> due = new TreeSet<>(List.of(FACE));
        Set<String> found = new TreeSet<>();
        for (Method method : made.getDeclaredMethods()) {
            if (!Modifier.isPrivate(method.getModifiers())) {
                must(Modifier.isPublic(method.getModifiers()) && !Modifier.isStatic(method.getModifiers()),
                    method.getName() + " is public and not static");
                found.add(signature(method));
            }
        }
        must(found.equals(due), "the methods are " + due + ", not " + found);
        Constructor<?>[] constructors = made.getDeclaredConstructors();
        must(constructors.length == 1 && constructors[0].getParameterCount() == 0
            && Modifier.isPublic(constructors[0].getModifiers()), "there is one constructor");
        Set<String> constants = new TreeSet<>(List.of(CONSTANTS));
        Set<String> fields = new TreeSet<>();
        for (Field field : made.getDeclaredFields()) {
            if (!Modifier.isPrivate(field.getModifiers())) {
                fields.add(field.getName());
                must(Modifier.isStatic(field.getModifiers()) && field.getType() == int.class
                    && Modifier.isPublic(field.getModifiers()), field.getName() + " is a public int constant");
            }
            statics(field);
        }
        must(fields.equals(constants), "the constants are " + constants + ", not " + fields);
        must(HubNetworks.NONE == -1 && HubNetworks.BAD_INDEX == -2 && HubNetworks.BAD_VALUE == -3
            && HubNetworks.BAD_STATE == -4 && HubNetworks.FULL == -5, "the constants have their values");
    }

    private static void statics(Field field) {
        int modifiers = field.getModifiers();
        must(!Modifier.isStatic(modifiers) || Modifier.isFinal(modifiers), field + " is final");
    }

    private static void nested(Class<?> inside) {
        int modifiers = inside.getModifiers();
        must(Modifier.isStatic(modifiers) && !Modifier.isPublic(modifiers) && !Modifier.isProtected(modifiers),
            inside + " is static and not public");
        int fields = 0;
        for (Field field : inside.getDeclaredFields()) {
            statics(field);
            fields += Modifier.isStatic(field.getModifiers()) ? 0 : 1;
        }
        must(fields <= 20, inside + " has at most 20 fields");
        must(inside.getDeclaredClasses().length == 0, inside + " has no class inside");
    }

    private static void names(Class<?> made) {
        Set<String> publicNames = new TreeSet<>();
        for (Method method : made.getDeclaredMethods()) {
            if (Modifier.isPublic(method.getModifiers())) {
                publicNames.add(method.getName());
            }
        }
        List<Class<?>> all = new ArrayList<>(List.of(made.getDeclaredClasses()));
        must(all.size() < 12, "there are at most 12 classes");
        all.add(made);
        for (Class<?> each : all) {
            for (Method method : each.getDeclaredMethods()) {
                must(method.getParameterCount() <= 7, method + " has at most 7 parameters");
                must(each == made && Modifier.isPublic(method.getModifiers())
                    || !publicNames.contains(method.getName()), method + " has a name of its own");
            }
        }
    }

    private static void source(String text) {
        // A text or a sign in quotes, or a comment, holds no code.
        String code = Pattern.compile("\"(\\\\.|[^\"\\\\])*\"|'(\\\\.|[^'\\\\])'|//[^\\n]*|/\\*.*?\\*/", Pattern.DOTALL)
            .matcher(text).replaceAll(found -> found.group().replaceAll("[^\\n]", " "));
        for (String word : FORBIDDEN) {
            Matcher matcher = Pattern.compile(word).matcher(code);
            must(!matcher.find(), "no " + word + " in the source");
        }
        int start = 0;
        int number = 0;
        for (String line : code.split("\n")) {
            number++;
            if (line.matches(" {4,8}[A-Za-z].*\\) \\{")) {
                start = number;
            }
            if (line.matches(" {4,8}\\}")) {
                must(number - start <= 60, "the method that ends in line " + number + " is short");
                start = number;
            }
        }
        for (byte sign : text.getBytes(StandardCharsets.UTF_8)) {
            must(sign > 0, "all signs are 1 to 127");
        }
    }
}
