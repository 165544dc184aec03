import java.io.ByteArrayOutputStream;
import java.io.IOException;
import java.io.PrintStream;
import java.lang.reflect.Field;
import java.lang.reflect.Method;
import java.lang.reflect.Modifier;
import java.nio.charset.StandardCharsets;
import java.nio.file.Files;
import java.nio.file.Path;
import java.util.List;
import java.util.Set;
import java.util.TreeSet;
import java.util.regex.Matcher;
import java.util.regex.Pattern;
import java.util.stream.Collectors;
import java.util.stream.Stream;

/** What README.md says: its example, the calls and the constants of the class, and the tests that there are. */
public final class ReadmeTest {
    private static final Path TESTS = Path.of("src/test/java");

    public static void main(String[] args) throws Exception {
        String readme = read(Path.of("README.md"));
        exampleIsThere(readme);
        examplePrintsWhatItSays();
        allCallsAreThere(readme);
        allConstantsAreThere(readme);
        allTestsAreThere(readme);
        Check.end();
    }

    private static String read(Path file) throws IOException {
        return Files.readString(file, StandardCharsets.UTF_8);
    }

    private static void exampleIsThere(String readme) throws IOException {
        String example = "```java\n" + read(TESTS.resolve("Example.java")) + "```\n";
        Check.due("README.md has Example.java as it is", readme.contains(example) ? 1 : 0, 1);
    }

    private static void examplePrintsWhatItSays() throws IOException {
        List<String> due = read(TESTS.resolve("Example.java")).lines()
            .filter(line -> line.contains("println("))
            .map(line -> line.replaceAll(".*\\); // ", ""))
            .collect(Collectors.toList());
        List<String> printed = printed().lines().collect(Collectors.toList());
        Check.due("lines that the example prints", printed.size(), due.size());
        for (int line = 0; line < Math.min(printed.size(), due.size()); line++) {
            Check.due("the example's line " + line, printed.get(line), due.get(line));
        }
    }

    private static String printed() {
        PrintStream before = System.out;
        ByteArrayOutputStream bytes = new ByteArrayOutputStream();
        System.setOut(new PrintStream(bytes, true, StandardCharsets.UTF_8));
        Example.main(new String[0]);
        System.setOut(before);
        return bytes.toString(StandardCharsets.UTF_8);
    }

    /** Calls are told in tables, each at the begin of its row. */
    private static void allCallsAreThere(String readme) {
        Set<String> told = new TreeSet<>();
        Matcher call = Pattern.compile("(?m)^\\| `(\\w+)\\(([^)]*)\\)`").matcher(readme);
        while (call.find()) {
            int arguments = call.group(2).isEmpty() ? 0 : call.group(2).split(",").length;
            told.add(call.group(1) + "/" + arguments);
        }
        Set<String> due = new TreeSet<>();
        for (Method method : TaleHoles.class.getDeclaredMethods()) {
            if (Modifier.isPublic(method.getModifiers())) {
                due.add(method.getName() + "/" + method.getParameterCount());
            }
        }
        Check.due("calls that README.md tells, with how many arguments", told.toString(), due.toString());
    }

    private static void allConstantsAreThere(String readme) throws IllegalAccessException {
        Set<String> told = new TreeSet<>();
        Matcher constant = Pattern.compile("(?m)^\\| `([A-Z_]+)` \\| (-\\d+)").matcher(readme);
        while (constant.find()) {
            told.add(constant.group(1) + " " + constant.group(2));
        }
        Set<String> due = new TreeSet<>();
        for (Field field : TaleHoles.class.getDeclaredFields()) {
            if (Modifier.isPublic(field.getModifiers())) {
                due.add(field.getName() + " " + field.getInt(null));
            }
        }
        Check.due("constants that README.md tells", told.toString(), due.toString());
    }

    private static void allTestsAreThere(String readme) throws IOException {
        Check.due("README.md says .ci/run", readme.contains("\n    .ci/run\n") ? 1 : 0, 1);
        try (Stream<Path> files = Files.list(TESTS)) {
            for (Path file : files.sorted().collect(Collectors.toList())) {
                String name = "`" + file.getFileName().toString().replace(".java", "") + "`";
                Check.due("README.md names the test's class " + name, readme.contains(name) ? 1 : 0, 1);
            }
        }
    }
}
