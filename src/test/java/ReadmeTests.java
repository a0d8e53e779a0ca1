import java.io.IOException;
import java.lang.reflect.Method;
import java.lang.reflect.Modifier;
import java.net.URL;
import java.net.URLClassLoader;
import java.nio.file.Files;
import java.nio.file.Path;
import java.util.Arrays;
import java.util.Comparator;
import java.util.List;
import java.util.Set;
import java.util.TreeSet;
import java.util.regex.Matcher;
import java.util.regex.Pattern;
import java.util.stream.Collectors;
import java.util.stream.Stream;
import javax.tools.JavaCompiler;
import javax.tools.ToolProvider;

/** What README.md says is so; run from the project's folder. */
public final class ReadmeTests extends Checks {
    private static final Path README = Path.of("README.md");
    private static final Path TESTS = Path.of("src/test/java");
    private static final Pattern JAVA_BLOCK = Pattern.compile("(?s)\n```java\n(.*?)\n```\n");
    private static final Pattern ANSWERED = Pattern.compile("(?m)^(town\\.\\w+\\(.*\\)); +// (-?\\w+): .*$");
    private static final Pattern CALL_ROW = Pattern.compile("(?m)^\\| `(\\w+)\\(([^)`]*)\\)` *\\| (\\S+) *\\|");
    private static final Pattern NAME_ROW = Pattern.compile("(?m)^\\| `([A-Z]+)` *\\| (-\\d+) *\\|");
    private static final Pattern TEST_FILE = Pattern.compile("`src/test/java/(\\w+)\\.java`");

    public static void main(String[] args) throws Exception {
        String readme = Files.readString(README);
        examples(readme);
        callsOfNewObjects(readme);
        namesOfAnswers(readme);
        testFiles(readme);
        end();
    }

    /** The examples are one program: compiled and run as it stands, each told answer being asked for. */
    private static void examples(String readme) throws Exception {
        about("README.md, examples");
        String example = JAVA_BLOCK.matcher(readme).results().map(block -> block.group(1)).collect(Collectors.joining("\n"));
        Matcher answered = ANSWERED.matcher(example);
        int answers = (int) answered.results().count();
        due("whether there are examples", answers > 0 ? 1 : 0, 1);
        due("comments that are no answer", lines(example, "//") - answers, 0);
        String asking = answered.reset().replaceAll(
                found -> Matcher.quoteReplacement("ReadmeTests.answered(\"" + found.group(1).replace("\"", "\\\"") + "\", "
                        + found.group(1) + ", \"" + found.group(2) + "\");"));
        runExample("public class ReadmeExample { public static void run() {\n" + asking + "\n} }\n");
    }

    private static int lines(String text, String with) {
        return (int) text.lines().filter(line -> line.contains(with)).count();
    }

    private static void runExample(String source) throws Exception {
        Path folder = Files.createTempDirectory("readme");
        try {
            Path file = Files.writeString(folder.resolve("ReadmeExample.java"), source);
            JavaCompiler compiler = ToolProvider.getSystemJavaCompiler();
            int failed = compiler.run(null, null, null,
                    "-cp", System.getProperty("java.class.path"), "-d", folder.toString(), file.toString());
            due("javac of the examples", failed, 0);
            if (failed == 0) {
                try (URLClassLoader loader = new URLClassLoader(new URL[] {folder.toUri().toURL()})) {
                    loader.loadClass("ReadmeExample").getMethod("run").invoke(null);
                }
            }
        } finally {
            remove(folder);
        }
    }

    private static void remove(Path folder) throws IOException {
        try (Stream<Path> inside = Files.walk(folder)) {
            for (Path path : inside.sorted(Comparator.reverseOrder()).toList()) {
                Files.delete(path);
            }
        }
    }

    /** Called by the examples. */
    public static void answered(String call, int got, String told) {
        due(call, got, number(told));
    }

    private static int number(String told) {
        switch (told) {
            case "BAD":
                return BAD;
            case "NO":
                return NO;
            case "FULL":
                return FULL;
            case "NONE":
                return NONE;
            default:
                return Integer.parseInt(told);
        }
    }

    private static void callsOfNewObjects(String readme) throws Exception {
        about("README.md, every call");
        Set<String> told = new TreeSet<>();
        Matcher row = CALL_ROW.matcher(readme);
        while (row.find()) {
            told.add(row.group(1));
            Object[] numbers = Arrays.stream(row.group(2).split(", ")).filter(n -> !n.isEmpty()).map(Integer::valueOf).toArray();
            Class<?>[] types = new Class<?>[numbers.length];
            Arrays.fill(types, int.class);
            Method method = LadderOfBows.class.getMethod(row.group(1), types);
            due(row.group(1) + "(" + row.group(2) + ")", (int) method.invoke(new LadderOfBows(), numbers), number(row.group(3)));
        }
        Set<String> face = Arrays.stream(LadderOfBows.class.getDeclaredMethods())
                .filter(method -> Modifier.isPublic(method.getModifiers())).map(Method::getName)
                .collect(Collectors.toCollection(TreeSet::new));
        face.removeAll(told);
        due("calls that are not told: " + face, face.size(), 0);
    }

    private static void namesOfAnswers(String readme) throws Exception {
        about("README.md, answers below 0");
        List<String> names = List.of("BAD", "NO", "FULL", "NONE");
        Matcher row = NAME_ROW.matcher(readme);
        for (String name : names) {
            boolean isThere = row.find() && row.group(1).equals(name);
            due("a row of " + name, isThere ? 1 : 0, 1);
            if (isThere) {
                due(name, LadderOfBows.class.getField(name).getInt(null), Integer.parseInt(row.group(2)));
            }
        }
    }

    private static void testFiles(String readme) throws IOException {
        about("README.md, tests");
        Set<String> told = TEST_FILE.matcher(readme).results().map(found -> found.group(1) + ".java")
                .collect(Collectors.toCollection(TreeSet::new));
        try (Stream<Path> files = Files.list(TESTS)) {
            Set<String> there = files.map(file -> file.getFileName().toString()).collect(Collectors.toCollection(TreeSet::new));
            due("whether " + told + " are " + there, told.equals(there) ? 1 : 0, 1);
        }
    }
}
