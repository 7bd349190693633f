import java.io.IOException;
import java.lang.reflect.InvocationTargetException;
import java.lang.reflect.Method;
import java.nio.file.Files;
import java.nio.file.Path;
import java.util.Set;
import java.util.TreeSet;
import java.util.regex.Matcher;
import java.util.regex.Pattern;

/** README.md: the calls of its example answer what stands behind them, and no method is left out. */
public final class ReadmeTest extends Checks {
    private static final Pattern CALL = Pattern.compile("^x\\.(\\w+)\\((.*?)\\); *// (-?\\d+)(:.*)?$", Pattern.MULTILINE);

    public static void main(String[] args) throws IOException, IllegalAccessException, InvocationTargetException {
        String text = Files.readString(Path.of("README.md"));
        example(text);
        methods(text);
        report("ReadmeTest");
    }

    private static void example(String text) throws IllegalAccessException, InvocationTargetException {
        says("the example in README.md");
        HubNetworks x = new HubNetworks();
        int start = text.indexOf("```java\nHubNetworks x = new HubNetworks();\n");
        int end = text.indexOf("```", start + 3);
        due("the example is there", start >= 0 && end > start ? 1 : 0, 1);
        String code = text.substring(Math.max(0, start), Math.max(0, end));
        int calls = 0;
        Matcher call = CALL.matcher(code);
        while (call.find()) {
            due(call.group(1) + "(" + call.group(2) + ")", answer(x, call.group(1), call.group(2)),
                Long.parseLong(call.group(3)));
            calls++;
        }
        due("lines of the example, without the first two", calls, code.lines().count() - 2);
    }

    private static long answer(HubNetworks x, String name, String list)
            throws IllegalAccessException, InvocationTargetException {
        String[] words = list.isEmpty() ? new String[0] : list.split(", ");
        Object[] values = new Object[words.length];
        Method method = named(name);
        for (int i = 0; i < words.length; i++) {
            boolean truth = method.getParameterTypes()[i] == boolean.class;
            values[i] = truth ? (Object) Boolean.valueOf(words[i]) : Integer.valueOf(words[i]);
        }
        return ((Number) method.invoke(x, values)).longValue();
    }

    private static Method named(String name) {
        for (Method method : HubNetworks.class.getMethods()) {
            if (method.getName().equals(name)) {
                return method;
            }
        }
        throw new IllegalStateException("README.md calls " + name + "(), which is not there");
    }

    private static void methods(String text) {
        says("README.md");
        Set<String> missing = new TreeSet<>();
        for (Method method : HubNetworks.class.getMethods()) {
            if (method.getDeclaringClass() == HubNetworks.class && !text.contains("`" + method.getName() + "`")) {
                missing.add(method.getName());
            }
        }
        due("methods that it does not tell: " + missing, missing.size(), 0);
    }
}
