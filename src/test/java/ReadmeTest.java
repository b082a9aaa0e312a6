import java.io.IOException;
import java.lang.reflect.Method;
import java.nio.file.Files;
import java.nio.file.Path;
import java.util.HashMap;
import java.util.Map;
import java.util.regex.Matcher;
import java.util.regex.Pattern;

/** README.md: its example answers what it says, and it names each call; run from the project's root. */
public final class ReadmeTest {
    private static final Pattern CALL = Pattern.compile("x\\.(\\w+)\\((.*)\\);\\s*// (-?\\d+)\\b.*");

    public static void main(String[] args) throws IOException, ReflectiveOperationException {
        String text = Files.readString(Path.of("README.md"));
        Map<String, Method> face = new HashMap<>();
        for (Method each : MirrorBench.class.getDeclaredMethods()) {
            if (java.lang.reflect.Modifier.isPublic(each.getModifiers())) face.put(each.getName(), each);
        }
        for (String each : face.keySet()) Due.is("README.md names " + each, text.contains("`" + each + "`") ? 1 : 0, 1);
        Due.is("README.md names .ci/run", text.contains("\n.ci/run\n") ? 1 : 0, 1);
        String mark = "```java\n";
        int from = text.indexOf(mark) + mark.length();
        example(text.substring(from, text.indexOf("```", from)), face);
        Due.end();
    }

    private static void example(String code, Map<String, Method> face) throws ReflectiveOperationException {
        MirrorBench x = new MirrorBench();
        String[] lines = code.split("\n");
        Due.is("the example's first line", lines[0], "MirrorBench x = new MirrorBench();");
        for (int n = 1; n < lines.length; n++) {
            if (lines[n].isEmpty()) continue;
            Matcher told = CALL.matcher(lines[n]);
            Due.is("a call and its answer: " + lines[n], told.matches() ? 1 : 0, 1);
            if (!told.matches()) continue;
            Method call = face.get(told.group(1));
            Object got = call.invoke(x, numbers(call, told.group(2)));
            Due.is(lines[n], ((Number) got).longValue(), Long.parseLong(told.group(3)));
        }
    }

    private static Object[] numbers(Method call, String told) {
        String[] each = told.isEmpty() ? new String[0] : told.split(", ");
        Object[] numbers = new Object[each.length];
        for (int k = 0; k < each.length; k++) {
            Class<?> type = call.getParameterTypes()[k];
            if (type == boolean.class) numbers[k] = Boolean.valueOf(each[k]);
            else if (type == long.class) numbers[k] = Long.valueOf(each[k]);
            else numbers[k] = Integer.valueOf(each[k]);
        }
        return numbers;
    }
}
