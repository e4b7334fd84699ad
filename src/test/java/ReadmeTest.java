import java.io.IOException;
import java.lang.reflect.InvocationTargetException;
import java.lang.reflect.Method;
import java.nio.file.Files;
import java.nio.file.Path;
import java.util.Arrays;
import java.util.HashMap;
import java.util.Map;
import java.util.regex.Matcher;
import java.util.regex.Pattern;

/** Each call of README.md's example answers what stands behind it; run in the project's directory. */
public final class ReadmeTest {
    private static final Check check = new Check("ReadmeTest");

    private static final String MAKING = "Tollgate ledger = new Tollgate();";
    private static final Pattern CALL = Pattern.compile(
            "(?:int (\\w+) = )?ledger\\.(\\w+)\\(([^)]*)\\); +// (\\S+(?: \\S+)?)");

    private static final Tollgate ledger = new Tollgate();
    private static final Map<String, Integer> names = new HashMap<>();

    public static void main(String[] args) throws IOException, ReflectiveOperationException {
        int calls = 0;
        boolean isExample = false;
        for (String line : Files.readAllLines(Path.of("README.md"))) {
            if (line.startsWith("```")) {
                isExample = line.equals("```java");
            } else if (isExample && !line.isEmpty() && !line.startsWith("//") && !line.equals(MAKING)) {
                runLine(line);
                calls++;
            }
        }
        check.holds("README.md has an example", calls > 0);
        check.end();
    }

    private static void runLine(String line) throws ReflectiveOperationException {
        Matcher call = CALL.matcher(line);
        if (!call.matches()) {
            check.tell("not a call with its answer: " + line);
            return;
        }
        String got = answer(call.group(2), arguments(call.group(3)));
        check.same(line, got, call.group(4));
        if (call.group(1) != null) {
            names.put(call.group(1), Integer.valueOf(got));
        }
    }

    private static Object[] arguments(String text) {
        if (text.isEmpty()) {
            return new Object[0];
        }
        String[] words = text.split(", ");
        Object[] values = new Object[words.length];
        for (int i = 0; i < words.length; i++) {
            values[i] = names.containsKey(words[i]) ? names.get(words[i]) : Integer.valueOf(words[i]);
        }
        return values;
    }

    private static String answer(String name, Object[] values) throws ReflectiveOperationException {
        Class<?>[] ints = new Class<?>[values.length];
        Arrays.fill(ints, int.class);
        Method method = Tollgate.class.getMethod(name, ints);
        try {
            return String.valueOf(method.invoke(ledger, values));
        } catch (InvocationTargetException e) {
            return "throws " + e.getCause().getClass().getSimpleName();
        }
    }
}
