import java.io.IOException;
import java.lang.reflect.Method;
import java.nio.file.Files;
import java.nio.file.Path;
import java.util.Arrays;
import java.util.regex.Matcher;
import java.util.regex.Pattern;

/** README.md's example answers what stands beside its calls, and its table has the constants of the class. */
public final class ReadmeTests {
    private static final Pattern EXAMPLE = Pattern.compile("(?s)```java\n(.*?)```");
    private static final Pattern CALL = Pattern.compile("checker\\.(\\w+)\\(([^)]*)\\); *// (-?\\d+)(?:\\D.*)?");
    private static final Pattern ROW = Pattern.compile("(?m)^\\| `(\\w+)` \\| (-?\\d+) \\|");
    private static final String MAKING = "LinearizabilityChecker checker = new LinearizabilityChecker();";
    private static final int FEWEST_CALLS = 10;
    private static final int ERROR_CODES = 13;

    private static int wrong = 0;

    public static void main(String[] arguments) throws IOException, ReflectiveOperationException {
        String readme = Files.readString(Path.of("README.md"));
        playExample(readme);
        compareTable(readme);
        System.out.println(wrong == 0 ? "README.md tells what the class does" : wrong + " faults in README.md");
        if (wrong != 0) {
            System.exit(1);
        }
    }

    private static void same(String what, int told, int found) {
        if (told != found) {
            wrong++;
            System.out.println("README.md, " + what + ": told is " + told + ", found is " + found);
        }
    }

    private static void playExample(String readme) throws ReflectiveOperationException {
        Matcher example = EXAMPLE.matcher(readme);
        same("examples", 1, (int) EXAMPLE.matcher(readme).results().count());
        LinearizabilityChecker checker = new LinearizabilityChecker();
        int calls = 0;
        for (String line : example.find() ? example.group(1).split("\n") : new String[0]) {
            Matcher call = CALL.matcher(line);
            if (call.matches()) {
                same(line, Integer.parseInt(call.group(3)), answer(checker, call.group(1), call.group(2)));
                calls++;
            } else {
                same("lines that are neither empty nor a call with its answer: " + line, 0,
                    line.isEmpty() || line.equals(MAKING) ? 0 : 1);
            }
        }
        same("too few calls in the example", 0, calls < FEWEST_CALLS ? 1 : 0);
    }

    private static int answer(LinearizabilityChecker checker, String name, String list)
            throws ReflectiveOperationException {
        Object[] numbers = Arrays.stream(list.isEmpty() ? new String[0] : list.split(", ")).map(Integer::valueOf)
            .toArray();
        Class<?>[] types = new Class<?>[numbers.length];
        Arrays.fill(types, int.class);
        Method method = LinearizabilityChecker.class.getMethod(name, types);
        return (Integer) method.invoke(checker, numbers);
    }

    private static void compareTable(String readme) throws ReflectiveOperationException {
        Matcher row = ROW.matcher(readme);
        int rows = 0;
        while (row.find()) {
            same(row.group(1), Integer.parseInt(row.group(2)),
                LinearizabilityChecker.class.getField(row.group(1)).getInt(null));
            rows++;
        }
        same("rows of the table", rows, ERROR_CODES);
    }
}
