import java.io.IOException;
import java.nio.file.Files;
import java.nio.file.Path;
import java.util.HashMap;
import java.util.Map;
import java.util.regex.Matcher;
import java.util.regex.Pattern;

/** The calls of README.md's example answer what it says behind them. */
public final class ReadmeTest {
    private static final Pattern CALL =
            Pattern.compile("(?:int (\\w+) = )?x\\.(\\w+)\\(([^)]*)\\); +// (void|-?\\d+)(?: .*)?");

    private final Run run = new Run("README.md");
    private final Map<String, Long> named = new HashMap<>();

    public static void main(String[] args) throws IOException {
        String readme = Files.readString(Path.of("README.md"));
        String[] around = readme.split("```java\n|\n```\n");
        Run.same("README.md has an example", around.length > 2, true);
        ReadmeTest test = new ReadmeTest();
        int calls = 0;
        for (String line : around.length > 2 ? around[1].split("\n") : new String[0]) {
            if (!line.isBlank() && !line.equals("EntryTree x = new EntryTree();")) {
                test.make(line);
                calls++;
            }
        }
        Run.same("the example has calls", calls > 20, true);
        Run.finish();
    }

    private void make(String line) {
        Matcher call = CALL.matcher(line);
        Run.same(line + " can be read", call.matches(), true);
        if (!call.matches()) {
            return;
        }
        String due = call.group(4);
        run.due(due, call.group(2), arguments(call.group(3)));
        if (call.group(1) != null) {
            named.put(call.group(1), Long.valueOf(due));
        }
    }

    private long[] arguments(String told) {
        if (told.isEmpty()) {
            return new long[0];
        }
        String[] parts = told.split(", ");
        long[] arguments = new long[parts.length];
        for (int i = 0; i < parts.length; i++) {
            arguments[i] = named.containsKey(parts[i]) ? named.get(parts[i]) : Long.decode(parts[i]);
        }
        return arguments;
    }
}
