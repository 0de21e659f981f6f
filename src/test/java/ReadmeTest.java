import java.io.IOException;
import java.lang.reflect.Method;
import java.lang.reflect.Modifier;
import java.nio.file.Files;
import java.nio.file.Path;
import java.util.ArrayList;
import java.util.List;
import java.util.Set;
import java.util.TreeSet;
import java.util.regex.Matcher;
import java.util.regex.Pattern;

/** README.md's example answers what stands beside it, and its example and its table have every call. */
public final class ReadmeTest {
    private static final String CODE = "```java";
    private static final String CODE_END = "```";
    private static final Pattern MADE = Pattern.compile("SamplePacks x = new SamplePacks\\(\\);");
    private static final Pattern CALL = Pattern.compile("x\\.((\\w+)\\([^()]*\\)); +// (-?\\d+|NONE|BAD|NO|FULL|throws)\\b.*");
    private static final Pattern TABLE_ROW = Pattern.compile("\\| `(\\w+)\\(.*\\)` \\|.*");

    private static int wrong = 0;

    private static void due(String what, Object got, Object want) {
        if (!got.equals(want)) {
            wrong++;
            System.out.println(what + " is " + got + ", due is " + want);
        }
    }

    private static Set<String> face() {
        Set<String> names = new TreeSet<>();
        for (Method m : SamplePacks.class.getDeclaredMethods()) {
            if (Modifier.isPublic(m.getModifiers())) {
                names.add(m.getName());
            }
        }
        return names;
    }

    private static List<String> example(List<String> readme) {
        int from = readme.indexOf(CODE) + 1;
        List<String> behind = readme.subList(from, readme.size());
        int count = from == 0 ? -1 : behind.indexOf(CODE_END);
        return count < 0 ? new ArrayList<>() : behind.subList(0, count);
    }

    private static void runExample(List<String> rows) {
        Set<String> called = new TreeSet<>();
        WatchedRun run = new WatchedRun("README.md's example");
        for (String row : rows) {
            Matcher call = CALL.matcher(row);
            if (call.matches()) {
                called.add(call.group(2));
                run.calls(call.group(1) + " " + call.group(3));
            } else {
                due("a row of the example that is no call: " + row, row.isEmpty() || MADE.matcher(row).matches(), true);
            }
        }
        due("what the example calls", called, face());
    }

    private static void checkTable(List<String> readme) {
        Set<String> named = new TreeSet<>();
        for (String row : readme) {
            Matcher call = TABLE_ROW.matcher(row);
            if (call.matches()) {
                named.add(call.group(1));
            }
        }
        due("what the table names", named, face());
    }

    public static void main(String[] args) throws IOException {
        List<String> readme = Files.readAllLines(Path.of("README.md"));
        runExample(example(readme));
        checkTable(readme);
        if (wrong != 0) {
            System.exit(1);
        }
        WatchedRun.end();
    }
}
