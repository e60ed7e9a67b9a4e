import java.lang.reflect.Method;
import java.nio.file.Files;
import java.nio.file.Path;
import java.util.Arrays;
import java.util.regex.Matcher;
import java.util.regex.Pattern;

/** README.md against the class: the example's answers are those that it tells, and no call goes unnamed. */
public final class ReadmeTest {
    private static final Pattern TEXT = Pattern.compile("text = \"([^\"]*)\"");
    private static final Pattern CALL = Pattern.compile("(?m)^x\\.(\\w+)\\(([-\\d, ]*)\\); +// (-?\\d+)");

    public static void main(String[] args) throws Exception {
        String readme = Files.readString(Path.of(args.length > 0 ? args[0] : ".", "README.md"));
        checkExample(readme);
        checkCalls(readme);
        Checks.finish();
    }

    private static void checkExample(String readme) throws ReflectiveOperationException {
        Matcher text = TEXT.matcher(readme);
        Checks.due("the example has a text", text.find() ? 1 : 0, 1);
        WaitingWires x = new WaitingWires();
        Checks.put(x, text.group(1));
        int calls = 0;
        Matcher call = CALL.matcher(readme);
        while (call.find()) {
            Checks.due(call.group(), answer(x, call.group(1), call.group(2)), Long.parseLong(call.group(3)));
            calls++;
        }
        Checks.due("the example tells answers", calls >= 5 ? 1 : 0, 1);
    }

    private static int answer(WaitingWires x, String name, String numbers) throws ReflectiveOperationException {
        Object[] given = numbers.isEmpty() ? new Object[0]
            : Arrays.stream(numbers.split(", *")).map(Integer::valueOf).toArray();
        Class<?>[] types = new Class<?>[given.length];
        Arrays.fill(types, int.class);
        return (Integer) WaitingWires.class.getMethod(name, types).invoke(x, given);
    }

    private static void checkCalls(String readme) {
        for (Method m : WaitingWires.class.getDeclaredMethods()) {
            if (java.lang.reflect.Modifier.isPublic(m.getModifiers())) {
                boolean named = Pattern.compile("`" + m.getName() + "[`(]").matcher(readme).find();
                Checks.due("README.md tells of " + m.getName(), named ? 1 : 0, 1);
            }
        }
    }
}
