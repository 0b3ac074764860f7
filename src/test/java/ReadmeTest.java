import java.io.IOException;
import java.lang.reflect.Method;
import java.lang.reflect.Modifier;
import java.nio.file.Files;
import java.nio.file.Path;
import java.util.ArrayList;
import java.util.List;
import java.util.TreeSet;
import java.util.regex.Matcher;
import java.util.regex.Pattern;

/** README.md tells the truth: its example answers as it says, and its table has each call of the face. */
public final class ReadmeTest {
    private static final Pattern STATEMENT = Pattern.compile("(?m)^cycles\\.(\\w+\\([^;]*\\)); +// (throws \\w+|[^:\\n]+)");
    private static final Pattern TABLE_ROW = Pattern.compile("(?m)^\\| `(\\w+)\\(([^)]*)\\)` \\|[^|]*\\|([^|]*)\\|$");

    private static void example(String readme) {
        Bench bench = new Bench();
        int statements = 0;
        Matcher matcher = STATEMENT.matcher(readme);
        while (matcher.find()) {
            Check.due("README's example", matcher.group(1), bench.ask(matcher.group(1)), matcher.group(2).trim());
            statements++;
        }
        long written = readme.lines().filter(line -> line.startsWith("cycles.")).count();
        Check.due("README's example", "statements with an answer", String.valueOf(statements), String.valueOf(written));
        Check.due("README's example", "there is one", String.valueOf(statements > 0), "true");
    }

    private static String row(String name, int parameters, String exceptions) {
        return name + " takes " + parameters + " throws " + exceptions;
    }

    private static TreeSet<String> calls() {
        TreeSet<String> calls = new TreeSet<>();
        for (Method method : UniversalCycles.class.getDeclaredMethods()) {
            if (Modifier.isPublic(method.getModifiers())) {
                List<String> exceptions = new ArrayList<>();
                for (Class<?> type : method.getExceptionTypes()) {
                    exceptions.add(type.getSimpleName());
                }
                calls.add(row(method.getName(), method.getParameterCount(), String.join(", ", exceptions)));
            }
        }
        return calls;
    }

    private static void table(String readme) {
        TreeSet<String> told = new TreeSet<>();
        Matcher matcher = TABLE_ROW.matcher(readme);
        while (matcher.find()) {
            int parameters = matcher.group(2).isEmpty() ? 0 : matcher.group(2).split(",").length;
            told.add(row(matcher.group(1), parameters, matcher.group(3).trim()));
        }
        for (String call : calls()) {
            Check.due("README's table", call, String.valueOf(told.remove(call)), "true");
        }
        Check.due("README's table", "rows that are no call", told.toString(), "[]");
    }

    /** A test that README.md does not tell of is found by nobody. */
    private static void tests(String readme) throws IOException {
        try (var files = Files.newDirectoryStream(Path.of("src/test/java"), "*Test.java")) {
            for (Path file : files) {
                String name = file.getFileName().toString().replace(".java", "");
                Check.due("README's tests", name + " is told", String.valueOf(readme.contains("- `" + name + "`:")), "true");
            }
        }
    }

    public static void main(String[] args) throws IOException {
        String readme = Files.readString(Path.of("README.md"));
        example(readme);
        table(readme);
        tests(readme);
        Check.end("ReadmeTest");
    }
}
