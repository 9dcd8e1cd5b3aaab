import java.io.IOException;
import java.lang.reflect.Method;
import java.nio.file.Files;
import java.nio.file.Path;
import java.util.HashMap;
import java.util.Map;
import java.util.regex.Matcher;
import java.util.regex.Pattern;

/** The examples of README.md: each is a run of calls on a new object, with the answer of each call after it. */
public final class ReadmeTest extends Case {
    private static final Pattern EXAMPLE = Pattern.compile("```java\n(.*?)```", Pattern.DOTALL);
    private static final Pattern CALL =
        Pattern.compile("(?:int (\\w+) = )?x\\.(\\w+)\\((.*?)\\); +// (-?\\d+|true|false)\\b.*");
    private static final String NEW_OBJECT = "ScopeRunner x = new ScopeRunner();";
    private static final int EXAMPLES = 3;

    public static void main(String[] args) throws IOException, ReflectiveOperationException {
        Matcher example = EXAMPLE.matcher(Files.readString(Path.of("README.md")));
        int count = 0;
        while (example.find()) {
            follow(example.group(1).split("\n"));
            count++;
        }
        due("README.md: examples", count, EXAMPLES);
        end("ReadmeTest");
    }

    private static void follow(String[] lines) throws ReflectiveOperationException {
        ScopeRunner x = new ScopeRunner();
        Map<String, Integer> named = new HashMap<>();
        due("README.md: an example begins with " + NEW_OBJECT, lines[0].equals(NEW_OBJECT), true);
        for (int i = 1; i < lines.length; i++) {
            Matcher call = CALL.matcher(lines[i]);
            if (!call.matches()) {
                fail("README.md: not a call with its answer: " + lines[i]);
                continue;
            }
            String answer = answer(x, call.group(2), call.group(3), named);
            if (!answer.equals(call.group(4))) {
                fail("README.md: " + lines[i] + " answered " + answer);
            }
            if (call.group(1) != null) {
                named.put(call.group(1), Integer.valueOf(answer));
            }
        }
    }

    private static String answer(ScopeRunner x, String name, String list, Map<String, Integer> named)
        throws ReflectiveOperationException {
        String[] told = list.isEmpty() ? new String[0] : list.split(", ");
        Object[] arguments = new Object[told.length];
        for (int i = 0; i < told.length; i++) {
            Integer known = named.get(told[i]);
            arguments[i] = known != null ? known : Integer.valueOf(told[i]);
        }
        for (Method m : ScopeRunner.class.getMethods()) {
            if (m.getName().equals(name) && m.getParameterCount() == told.length) {
                return m.invoke(x, arguments).toString();
            }
        }
        return "nothing, as there is no such call";
    }
}
