import java.io.IOException;
import java.lang.reflect.Method;
import java.lang.reflect.Modifier;
import java.net.URL;
import java.net.URLClassLoader;
import java.nio.file.DirectoryStream;
import java.nio.file.Files;
import java.nio.file.Path;
import java.util.ArrayList;
import java.util.List;
import java.util.Map;
import java.util.Set;
import java.util.TreeMap;
import java.util.TreeSet;
import java.util.regex.Matcher;
import java.util.regex.Pattern;
import javax.tools.ToolProvider;

/**
 * What README.md shows answers as it says: its examples are compiled and run, each call being held
 * to the answer at the head of its line's comment; and its tables have every call and constant.
 */
public final class ReadmeTest {
    private static final Pattern EXAMPLE = Pattern.compile("(?ms)^```java\n(.*?)^```$");
    private static final Pattern CALL =
        Pattern.compile("\\s*(int \\w+ = )?(x\\.(\\w+)\\([^;]*\\)); *// (-?\\d+|true|false|[A-Z]+): .+");
    private static final Pattern ROW_OF_CALL = Pattern.compile("(?m)^\\| `(\\w+)\\(([^)]*)\\)` \\|");
    private static final Pattern ROW_OF_CONSTANT = Pattern.compile("(?m)^\\| `([A-Z]+)` \\| (-\\d+) \\|");

    private final String readme;
    private final Set<String> shown = new TreeSet<>();

    private ReadmeTest(String text) {
        readme = text;
    }

    public static void main(String[] args) throws ReflectiveOperationException, IOException {
        Path root = Path.of(args[0]).toAbsolutePath().resolve("../../../..").normalize();
        ReadmeTest test = new ReadmeTest(Files.readString(root.resolve("README.md")));
        test.examplesAnswerAsTheySay();
        test.everyCallIsShownAndHasARow();
        test.everyConstantHasItsNumber();
        test.everyTestIsNamed(root.resolve("src/test/java"));
        Check.due("README.md says how to run the tests", test.readme.contains("\n    .ci/run\n"), true);
        Check.end();
    }

    private void examplesAnswerAsTheySay() throws ReflectiveOperationException, IOException {
        StringBuilder source = new StringBuilder("public final class Examples {\n");
        int examples = 0;
        for (Matcher example = EXAMPLE.matcher(readme); example.find(); examples++) {
            source.append("public static void example").append(examples).append("(java.util.List<Object[]> answers) {\n");
            for (String line : example.group(1).split("\n")) {
                source.append(withItsAnswerKept(line)).append('\n');
            }
            source.append("}\n");
        }
        Check.due("README.md has examples", examples > 0, true);
        run(source.append("}\n").toString());
    }

    /** Each call becomes one that also keeps its text, what it answered and what the comment says. */
    private String withItsAnswerKept(String line) {
        Matcher call = CALL.matcher(line);
        if (!call.matches()) {
            Check.due("a call without its answer: " + line, line.contains("x."), false);
            return line;
        }
        shown.add(call.group(3));
        String said = call.group(4);
        String due = Character.isUpperCase(said.charAt(0)) ? "RedoQuorum." + said : said;
        String name = call.group(1) == null ? "var answer = " : call.group(1);
        String variable = name.split(" ")[1];
        String kept = name + call.group(2) + "; answers.add(new Object[] {\"" + call.group(2) + "\", " + variable + ", " + due + "});";
        return call.group(1) == null ? "{ " + kept + " }" : kept;
    }

    private static void run(String source) throws ReflectiveOperationException, IOException {
        Path directory = Files.createTempDirectory("readme");
        Path file = Files.writeString(directory.resolve("Examples.java"), source);
        int failed = ToolProvider.getSystemJavaCompiler().run(null, null, null, "-cp",
            System.getProperty("java.class.path"), "-d", directory.toString(), file.toString());
        Check.due("the examples compile", failed, 0);
        if (failed == 0) {
            callEach(directory);
        }
        deleteAll(directory);
    }

    private static void callEach(Path directory) throws ReflectiveOperationException, IOException {
        List<Object[]> answers = new ArrayList<>();
        try (URLClassLoader loader = new URLClassLoader(new URL[] {directory.toUri().toURL()})) {
            for (Method example : loader.loadClass("Examples").getDeclaredMethods()) {
                example.invoke(null, answers);
            }
        }
        for (Object[] answer : answers) {
            Check.due("an example of README.md: " + answer[0], number(answer[1]), number(answer[2]));
        }
    }

    private static long number(Object answer) {
        return answer instanceof Integer i ? i : answer.equals(true) ? 1 : 0;
    }

    private static void deleteAll(Path directory) throws IOException {
        try (DirectoryStream<Path> files = Files.newDirectoryStream(directory)) {
            for (Path file : files) {
                Files.delete(file);
            }
        }
        Files.delete(directory);
    }

    private void everyCallIsShownAndHasARow() {
        Map<String, Integer> rows = new TreeMap<>();
        for (Matcher row = ROW_OF_CALL.matcher(readme); row.find();) {
            rows.put(row.group(1), row.group(2).isEmpty() ? 0 : row.group(2).split(",").length);
        }
        Map<String, Integer> face = new TreeMap<>();
        for (Method method : RedoQuorum.class.getDeclaredMethods()) {
            if (Modifier.isPublic(method.getModifiers())) {
                face.put(method.getName(), method.getParameterCount());
            }
        }
        Check.due("the table of calls has " + rows + ", the face has " + face, rows.equals(face), true);
        Check.due("the examples show " + shown + ", the face has " + face.keySet(), shown.equals(face.keySet()), true);
    }

    private void everyConstantHasItsNumber() throws ReflectiveOperationException {
        int rows = 0;
        for (Matcher row = ROW_OF_CONSTANT.matcher(readme); row.find(); rows++) {
            Check.due(row.group(1), RedoQuorum.class.getField(row.group(1)).getInt(null), Integer.parseInt(row.group(2)));
        }
        Check.due("rows of constants", rows, RedoQuorum.class.getFields().length);
    }

    private void everyTestIsNamed(Path tests) throws IOException {
        try (DirectoryStream<Path> files = Files.newDirectoryStream(tests, "*.java")) {
            for (Path file : files) {
                String name = file.getFileName().toString().replace(".java", "");
                Check.due("README.md names " + name, readme.contains("`" + name + "`"), true);
            }
        }
    }
}
