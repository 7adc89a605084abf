import java.lang.reflect.Method;
import java.nio.file.Files;
import java.nio.file.Path;
import java.util.regex.Matcher;
import java.util.regex.Pattern;

/** What README.md shows is made here call by call: each answer must be the one that its comment tells. */
public final class ReadmeTest {
    private static final Pattern CALL = Pattern.compile("(?m)^line\\.(\\w+)\\(([^)]*)\\);(?: *// (.*))?$");
    private static final Pattern ANSWER = Pattern.compile("-?\\d+|true|false");

    private ReadmeTest() {
    }

    public static void main(String[] args) throws Exception {
        String readme = Files.readString(Path.of("README.md"));
        BlackLine line = new BlackLine();
        Matcher calls = CALL.matcher(readme);
        int told = 0;
        while (calls.find()) {
            String answer = call(line, calls.group(1), calls.group(2).trim());
            Matcher due = ANSWER.matcher(calls.group(3) == null ? "" : calls.group(3));
            if (due.find()) {
                told++;
                Check.due(calls.group() + " which answered " + answer + ": as told", answer.equals(due.group()), true);
            }
        }
        Check.due("README.md tells some answers", told > 3, true);
        Check.due("none refused", refused(line), 0);
        testsAreNamed(readme);
        Check.finish();
    }

    private static String call(BlackLine line, String name, String list) throws Exception {
        String[] parts = list.isEmpty() ? new String[0] : list.split(" *, *");
        Object[] values = new Object[parts.length];
        Class<?>[] types = new Class<?>[parts.length];
        for (int k = 0; k < parts.length; k++) {
            values[k] = Long.decode(parts[k]).intValue();
            types[k] = int.class;
        }
        Method method = BlackLine.class.getMethod(name, types);
        return String.valueOf(method.invoke(line, values));
    }

    private static int refused(BlackLine line) {
        int sum = 0;
        for (int what = 0; what < 6; what++) {
            sum += line.status(what);
        }
        return sum;
    }

    private static void testsAreNamed(String readme) throws Exception {
        try (var files = Files.list(Path.of("src/test/java"))) {
            for (Path file : (Iterable<Path>) files.sorted()::iterator) {
                String name = file.getFileName().toString().replace(".java", "");
                if (name.endsWith("Test")) {
                    Check.due("README.md tells of " + name, readme.contains("`" + name + "`"), true);
                }
            }
        }
        Matcher named = Pattern.compile("`(\\w+Test)`").matcher(readme);
        while (named.find()) {
            Check.due("there is a " + named.group(1),
                    Files.exists(Path.of("src/test/java", named.group(1) + ".java")), true);
        }
    }
}
