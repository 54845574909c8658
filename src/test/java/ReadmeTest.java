import java.io.IOException;
import java.lang.reflect.InvocationTargetException;
import java.lang.reflect.Method;
import java.nio.file.Files;
import java.nio.file.Path;
import java.util.List;
import java.util.regex.Matcher;
import java.util.regex.Pattern;

/** The example of README.md: every line of it is called, and answers what the comment behind it tells. */
public final class ReadmeTest {
    private static final Pattern CALL = Pattern.compile("hub\\.(\\w+)\\(([^)]*)\\); +// (\\S+): .*");
    private static final int LEAST_CALLS = 20;

    private final MessageHub hub = new MessageHub();
    private int calls = 0;

    public static void main(String[] args) throws IOException, IllegalAccessException, InvocationTargetException {
        List<String> lines = Files.readAllLines(Path.of("README.md"));
        int first = lines.indexOf("```java") + 1;
        int end = first + lines.subList(first, lines.size()).indexOf("```");
        Check.due("'" + lines.get(first) + "' makes the object", lines.get(first).equals("MessageHub hub = new MessageHub();"), true);
        ReadmeTest test = new ReadmeTest();
        for (String line : lines.subList(first + 1, end)) {
            test.call(line);
        }
        Check.due("the example has calls enough", test.calls >= LEAST_CALLS, true);
        Check.finish();
    }

    private void call(String line) throws IllegalAccessException, InvocationTargetException {
        Matcher parts = CALL.matcher(line);
        Check.due("'" + line + "' is a call with its answer", parts.matches(), true);
        String[] words = parts.group(2).isEmpty() ? new String[0] : parts.group(2).split(", ");
        for (Method method : MessageHub.class.getMethods()) {
            if (method.getName().equals(parts.group(1)) && method.getParameterCount() == words.length) {
                String answer = String.valueOf(method.invoke(hub, arguments(method.getParameterTypes(), words)));
                Check.due("'" + line + "', which answers " + answer + ", tells so", answer.equals(parts.group(3)), true);
                calls++;
            }
        }
    }

    private static Object[] arguments(Class<?>[] types, String[] words) {
        Object[] arguments = new Object[words.length];
        for (int i = 0; i < words.length; i++) {
            if (types[i] == boolean.class) {
                arguments[i] = Boolean.valueOf(words[i]);
            } else if (types[i] == long.class) {
                arguments[i] = Long.decode(words[i]);
            } else {
                arguments[i] = Integer.decode(words[i]);
            }
        }
        return arguments;
    }
}
