import java.io.IOException;
import java.lang.reflect.Method;
import java.nio.file.Files;
import java.nio.file.Path;
import java.util.HashSet;
import java.util.Set;
import java.util.regex.Matcher;
import java.util.regex.Pattern;

/** README.md's run of calls, each line of which ends with what the call answers: so it can't grow old unseen. */
public final class ReadmeTest {
    private static final Pattern CALL = Pattern.compile("x\\.(\\w+)\\(([^)]*)\\);(?:\\s*//\\s*(-?\\d+)?.*)?");

    private final Check check = new Check();
    private final SharedQueues x = new SharedQueues();
    private final Set<String> called = new HashSet<>();

    public static void main(String[] args) throws IOException, ReflectiveOperationException {
        new ReadmeTest().run(Files.readString(Path.of("README.md")));
    }

    private void run(String readme) throws ReflectiveOperationException {
        Matcher line = CALL.matcher(readme);
        while (line.find()) {
            call(line.group(), line.group(1), line.group(2), line.group(3));
        }
        for (Method method : SharedQueues.class.getMethods()) {
            if (method.getDeclaringClass() == SharedQueues.class) {
                check.due(method.getName() + " stands in the run", called.contains(method.getName()) ? 1 : 0, 1);
            }
        }
        check.end();
    }

    private void call(String line, String name, String written, String want) throws ReflectiveOperationException {
        String[] words = written.isEmpty() ? new String[0] : written.split(",");
        Object[] arguments = new Object[words.length];
        Class<?>[] types = new Class<?>[words.length];
        for (int i = 0; i < words.length; i++) {
            arguments[i] = Integer.parseInt(words[i].trim());
            types[i] = int.class;
        }
        Object answer = SharedQueues.class.getMethod(name, types).invoke(x, arguments);
        called.add(name);
        check.due(line + " tells an answer (1), or none (0)", want == null ? 0 : 1, answer == null ? 0 : 1);
        if (want != null && answer instanceof Integer got) {
            check.due(line, got, Integer.parseInt(want));
        }
    }
}
