import java.io.IOException;
import java.lang.reflect.Field;
import java.lang.reflect.Method;
import java.lang.reflect.Modifier;
import java.net.URL;
import java.net.URLClassLoader;
import java.nio.file.Files;
import java.nio.file.Path;
import java.util.ArrayList;
import java.util.Comparator;
import java.util.List;
import java.util.TreeSet;
import java.util.regex.Matcher;
import java.util.regex.Pattern;
import java.util.stream.Stream;
import javax.tools.JavaCompiler;
import javax.tools.ToolProvider;

/**
 * What README.md says of the class's use: its blocks are one program that compiles, each call answers
 * what stands behind it, and each call and constant of the face is shown. The files that it names are there.
 */
public final class ReadmeTest {
    private static final Path PAGE = Path.of("README.md");
    private static final Path TESTS = Path.of("src/test/java");
    private static final Pattern CALL = Pattern.compile("(river|new RiverDown\\(\\))\\.(\\w+)\\(.*\\);.*");
    private static final Pattern SHOWN = Pattern.compile("(.*\\));\\s+// (-?\\d+|[A-Z]+)(: \\S.*)?");

    private final Checks checks = new Checks();
    private final List<String> program = new ArrayList<>();
    private final List<String> calls = new ArrayList<>();
    private final List<Long> due = new ArrayList<>();
    private final TreeSet<String> methods = new TreeSet<>();
    private final TreeSet<String> answers = new TreeSet<>();

    public static void main(String[] args) throws IOException, ReflectiveOperationException {
        ReadmeTest test = new ReadmeTest();
        List<String> page = Files.readAllLines(PAGE);
        test.checks.begin(PAGE.toString());
        test.takeBlocks(page);
        test.compareAnswers();
        test.wholeFace();
        test.filesAreThere(String.join("\n", page));
        test.checks.end();
    }

    private void takeBlocks(List<String> page) throws ReflectiveOperationException {
        boolean inside = false;
        for (int i = 0; i < page.size(); i++) {
            String line = page.get(i);
            if (line.startsWith("```")) {
                inside = !inside;
                checks.holds("line " + (i + 1) + ": a block is Java", line.equals(inside ? "```java" : "```"));
            } else if (inside) {
                takeLine("line " + (i + 1) + ": ", line);
            }
        }
        checks.holds("the last block ends", !inside);
    }

    /** A call that begins a line must say what it answers; all else goes into the program as it is. */
    private void takeLine(String where, String line) throws ReflectiveOperationException {
        Matcher call = CALL.matcher(line);
        if (!call.matches()) {
            program.add(line);
            return;
        }
        Matcher shown = SHOWN.matcher(line);
        checks.holds(where + "the call tells its answer: " + line, shown.matches());
        if (shown.matches()) {
            program.add("answers.add((long) " + shown.group(1) + ");");
            calls.add(where + shown.group(1));
            due.add(numberOf(shown.group(2)));
            methods.add(call.group(2));
            answers.add(shown.group(2));
        }
    }

    private static long numberOf(String answer) throws ReflectiveOperationException {
        return Character.isLetter(answer.charAt(0))
                ? RiverDown.class.getField(answer).getLong(null) : Long.parseLong(answer);
    }

    private void compareAnswers() throws IOException, ReflectiveOperationException {
        checks.holds("calls are shown", !calls.isEmpty());
        Path folder = Files.createTempDirectory("readme");
        try {
            List<?> got = run(folder);
            checks.due("how many calls answered", got.size(), calls.size());
            for (int i = 0; i < Math.min(got.size(), calls.size()); i++) {
                checks.due(calls.get(i), (Long) got.get(i), due.get(i));
            }
        } finally {
            remove(folder);
        }
    }

    /** The answers of the page's program, none if it does not compile. */
    private List<?> run(Path folder) throws IOException, ReflectiveOperationException {
        Path file = folder.resolve("Shown.java");
        Files.writeString(file, "public final class Shown {\n"
                + "public static java.util.List<Long> answers() {\n"
                + "java.util.List<Long> answers = new java.util.ArrayList<>();\n"
                + String.join("\n", program) + "\nreturn answers;\n}\n}\n");
        JavaCompiler compiler = ToolProvider.getSystemJavaCompiler();
        int failed = compiler == null ? 1 : compiler.run(null, null, null,
                "-d", folder.toString(), "-cp", System.getProperty("java.class.path"), file.toString());
        checks.holds("the blocks compile", failed == 0);
        if (failed != 0) {
            return List.of();
        }
        try (URLClassLoader loader = new URLClassLoader(new URL[] {folder.toUri().toURL()})) {
            return (List<?>) loader.loadClass("Shown").getMethod("answers").invoke(null);
        }
    }

    private static void remove(Path folder) throws IOException {
        try (Stream<Path> files = Files.walk(folder)) {
            for (Path each : files.sorted(Comparator.reverseOrder()).toList()) {
                Files.delete(each);
            }
        }
    }

    private void wholeFace() {
        for (Method method : RiverDown.class.getDeclaredMethods()) {
            if (Modifier.isPublic(method.getModifiers())) {
                checks.holds(method.getName() + "() is shown", methods.contains(method.getName()));
            }
        }
        for (Field field : RiverDown.class.getFields()) {
            checks.holds(field.getName() + " is shown", answers.contains(field.getName()));
        }
    }

    private void filesAreThere(String page) throws IOException {
        Matcher named = Pattern.compile("`(src/\\S+\\.java|\\.\\./shared/\\w+\\.md)`").matcher(page);
        while (named.find()) {
            checks.holds(named.group(1) + " is there", Files.exists(Path.of(named.group(1))));
        }
        checks.holds(".ci/run is there, and can be run", Files.isExecutable(Path.of(".ci/run")));
        try (Stream<Path> files = Files.list(TESTS)) {
            for (Path each : files.sorted().toList()) {
                String name = each.getFileName().toString();
                if (name.endsWith("Test.java")) {
                    checks.holds(name + " is named", page.contains("`" + TESTS + "/" + name + "`"));
                }
            }
        }
    }
}
