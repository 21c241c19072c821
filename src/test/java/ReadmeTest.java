import java.io.IOException;
import java.io.UncheckedIOException;
import java.lang.reflect.Method;
import java.lang.reflect.Modifier;
import java.net.URL;
import java.net.URLClassLoader;
import java.nio.file.Files;
import java.nio.file.Path;
import java.util.ArrayList;
import java.util.Comparator;
import java.util.HashMap;
import java.util.List;
import java.util.Map;
import java.util.Set;
import java.util.TreeSet;
import java.util.regex.Matcher;
import java.util.regex.Pattern;
import java.util.stream.Stream;
import javax.tools.JavaCompiler;
import javax.tools.ToolProvider;

/** The calls that README.md shows answer what it shows, and it names every call and every test. */
public final class ReadmeTest {
    private static final Path README = Path.of("README.md");
    private static final Path TESTS = Path.of("src/test/java");
    private static final Pattern CALL = Pattern.compile("rows\\s*\\.\\s*(\\w+)\\s*\\(");
    private static final Pattern SHOWN =
        Pattern.compile("((?:int \\w+ = )?)(rows\\.(\\w+)\\([^;/]*\\));\\s+// (-?\\d+)(?:: .+)?");

    private final Due due = new Due();
    private final StringBuilder source = new StringBuilder("public final class Shown {\n");
    private final List<String> runs = new ArrayList<>();
    private final Map<Integer, Integer> answersDue = new HashMap<>();
    private final Map<Integer, String> calls = new HashMap<>();
    private final Set<String> shownNames = new TreeSet<>();

    public static void main(String[] args) throws Exception {
        new ReadmeTest().run();
    }

    private void run() throws Exception {
        List<String> lines = Files.readAllLines(README);
        readBlocks(lines);
        source.append("}\n");
        due.holds("a run of calls is shown", !runs.isEmpty());
        Path work = Files.createTempDirectory("readme");
        try {
            runShown(work);
        } finally {
            removeAll(work);
        }
        lookAtNames(String.join("\n", lines));
        due.end("ReadmeTest");
    }

    private void readBlocks(List<String> lines) {
        int at = 0;
        while (at < lines.size()) {
            if (lines.get(at).equals("```java")) {
                int end = at + 1;
                while (end < lines.size() && !lines.get(end).equals("```")) {
                    end++;
                }
                addBlock(lines, at + 1, end);
                at = end;
            }
            at++;
        }
    }

    private void addBlock(List<String> lines, int start, int end) {
        if (start < end && lines.get(start).startsWith("static ")) {
            for (int at = start; at < end; at++) {
                noteNames(lines.get(at));
                source.append(lines.get(at)).append('\n');
            }
            return;
        }
        String run = "run" + start;
        runs.add(run);
        source.append("public static void ").append(run).append("(java.util.Map<Integer, Integer> answers) {\n");
        for (int at = start; at < end; at++) {
            addLine(at + 1, lines.get(at));
        }
        source.append("}\n");
    }

    private void addLine(int number, String line) {
        noteNames(line);
        Matcher shown = SHOWN.matcher(line);
        if (!shown.matches()) {
            due.holds("README.md, line " + number + ": the answer stands behind the call", !CALL.matcher(line).find());
            source.append(line).append('\n');
            return;
        }
        String kept = "answers.put(" + number + ", " + shown.group(2) + ");\n";
        String named = shown.group(1).isEmpty() ? "" : shown.group(1) + "answers.get(" + number + ");\n";
        source.append(kept).append(named);
        answersDue.put(number, Integer.valueOf(shown.group(4)));
        calls.put(number, "README.md, line " + number + ": " + shown.group(2));
    }

    private void noteNames(String line) {
        Matcher call = CALL.matcher(line);
        while (call.find()) {
            shownNames.add(call.group(1));
        }
    }

    private void runShown(Path work) throws Exception {
        Path file = work.resolve("Shown.java");
        Files.writeString(file, source);
        JavaCompiler compiler = ToolProvider.getSystemJavaCompiler();
        int code = compiler == null ? -1 : compiler.run(null, null, null, "-encoding", "UTF-8",
            "-cp", System.getProperty("java.class.path"), "-d", work.toString(), file.toString());
        due.is("javac on the blocks of README.md", code, 0);
        if (code != 0) {
            return;
        }
        Map<Integer, Integer> answers = new HashMap<>();
        try (URLClassLoader loader = new URLClassLoader(new URL[] {work.toUri().toURL()})) {
            Class<?> shown = loader.loadClass("Shown");
            for (String run : runs) {
                shown.getMethod(run, Map.class).invoke(null, answers);
            }
        }
        due.is("calls that were run", answers.size(), answersDue.size());
        for (int number : new TreeSet<>(answers.keySet())) {
            due.is(calls.get(number), answers.get(number), answersDue.get(number));
        }
    }

    private static void removeAll(Path work) throws IOException {
        try (Stream<Path> paths = Files.walk(work)) {
            paths.sorted(Comparator.reverseOrder()).forEach(ReadmeTest::remove);
        }
    }

    private static void remove(Path path) {
        try {
            Files.delete(path);
        } catch (IOException e) {
            throw new UncheckedIOException(e);
        }
    }

    private void lookAtNames(String text) throws IOException {
        for (Method method : ReaderRows.class.getDeclaredMethods()) {
            if (Modifier.isPublic(method.getModifiers())) {
                String name = method.getName();
                due.holds("README.md shows a call of " + name, shownNames.contains(name));
                due.is("rows of README.md's table for " + name, countRows(text, name, method.getParameterCount()), 1);
            }
        }
        Set<String> named = new TreeSet<>();
        Matcher row = Pattern.compile("(?m)^\\| `(\\w+Test)` \\|").matcher(text);
        while (row.find()) {
            named.add(row.group(1) + ".java");
        }
        due.holds("README.md's tests " + named + " are the tests that there are " + tests(), named.equals(tests()));
        due.holds("README.md tells .ci/run, and it can be run",
            text.contains("```sh\n.ci/run\n```") && Files.isExecutable(Path.of(".ci/run")));
    }

    private static int countRows(String text, String name, int parameters) {
        String between = parameters == 0 ? "" : "\\w+" + ", \\w+".repeat(parameters - 1);
        Matcher row = Pattern.compile("(?m)^\\| `" + name + "\\(" + between + "\\)` \\|").matcher(text);
        int count = 0;
        while (row.find()) {
            count++;
        }
        return count;
    }

    private static Set<String> tests() throws IOException {
        Set<String> names = new TreeSet<>();
        try (Stream<Path> paths = Files.list(TESTS)) {
            paths.map(path -> path.getFileName().toString()).filter(name -> name.endsWith("Test.java")).forEach(names::add);
        }
        return names;
    }
}
