import java.io.IOException;
import java.lang.reflect.Field;
import java.lang.reflect.Method;
import java.lang.reflect.Modifier;
import java.net.URL;
import java.net.URLClassLoader;
import java.nio.file.Files;
import java.nio.file.Path;
import java.util.ArrayList;
import java.util.List;
import java.util.regex.Matcher;
import java.util.regex.Pattern;
import java.util.stream.Stream;
import javax.tools.ToolProvider;

/**
 * The calls that README.md shows, with the answers that it names: its code is written into a class,
 * compiled and run. The page's path is given by the property "readme".
 */
public final class ReadmeTest {
    private static final Checks checks = new Checks("ReadmeTest");

    private static final String CLASS = "CodeOfReadme";
    private static final Pattern CODE = Pattern.compile("(?ms)^```java\\n(.*?)^```$");
    // A statement may take several lines; its answer stands behind it, up to a colon.
    private static final Pattern STATEMENT = Pattern.compile("(?s)(.*?);\\s*(?://\\s*([^:]*)(:.*)?)?");
    private static final Pattern LAST_LINE = Pattern.compile(".*;\\s*(//.*)?");
    private static final Pattern DECLARATION = Pattern.compile("(?s)(int|long|boolean) (\\w+) = (.*)");

    public static void main(String[] args) throws Exception {
        Path readme = Path.of(System.getProperty("readme", "README.md")).toAbsolutePath();
        String page = Files.readString(readme);
        namesTheFace(page);
        namesTheTests(page, readme.resolveSibling("src/test/java"));
        List<String> answers = answersOf(sourceOf(page));
        for (int i = 0; i + 2 < answers.size(); i += 3) {
            checks.due(answers.get(i), answers.get(i + 1), answers.get(i + 2));
        }
        checks.due("README.md shows calls", answers.size() > 3 * 30, true);
        checks.end();
    }

    private static void namesTheFace(String page) {
        for (Method method : DocumentaryCreditDesk.class.getDeclaredMethods()) {
            if (Modifier.isPublic(method.getModifiers())) {
                checks.due("README.md names " + method.getName(), page.contains("desk." + method.getName()
                        + "(") || page.contains("`" + method.getName() + "`"), true);
            }
        }
        for (Field constant : DocumentaryCreditDesk.class.getFields()) {
            checks.due("README.md names " + constant.getName(), page.contains(constant.getName()), true);
        }
        checks.due("README.md says how to run the tests", page.contains("\n    bash .ci/run\n"), true);
    }

    private static void namesTheTests(String page, Path directory) throws IOException {
        try (Stream<Path> files = Files.list(directory)) {
            for (Path file : files.sorted().toList()) {
                String name = file.getFileName().toString().replace(".java", "");
                boolean named = name.endsWith("Test") ? page.contains("\n| " + name + " | ")
                        : page.contains("`" + name + "`");
                checks.due("README.md names " + name, named, true);
            }
        }
    }

    // The class that the page's code becomes

    private static String sourceOf(String page) {
        StringBuilder methods = new StringBuilder();
        StringBuilder calls = new StringBuilder();
        Matcher block = CODE.matcher(page);
        while (block.find()) {
            if (block.group(1).startsWith("static ")) {
                methods.append(block.group(1));
            } else {
                statementsOf(block.group(1)).forEach(each -> calls.append(withAnswer(each)));
            }
        }
        return "public final class " + CLASS + " {\n" + methods
                + "public static java.util.List<String> answers() {\n"
                + "java.util.List<String> seen = new java.util.ArrayList<>();\n" + calls
                + "return seen;\n}\n}\n";
    }

    private static List<String> statementsOf(String code) {
        List<String> statements = new ArrayList<>();
        StringBuilder statement = new StringBuilder();
        for (String line : code.split("\n")) {
            statement.append(line).append('\n');
            if (line.isBlank() || LAST_LINE.matcher(line).matches()) {
                statements.add(statement.toString().strip());
                statement.setLength(0);
            }
        }
        checks.due("what is left of the code behind its last statement", statement.toString(), "");
        statements.removeIf(String::isEmpty);
        return statements;
    }

    /** The statement, and what adds the call, its answer and the answer due to those seen. */
    private static String withAnswer(String statement) {
        Matcher parts = STATEMENT.matcher(statement);
        if (statement.startsWith("DocumentaryCreditDesk desk = new ")) {
            return statement + "\n";
        }
        String answer = parts.matches() && parts.group(2) != null ? parts.group(2).strip() : "";
        checks.due("README.md names the answer of " + statement, !answer.isEmpty(), true);
        if (answer.isEmpty()) {
            return "";
        }
        String call = parts.group(1);
        Matcher declaration = DECLARATION.matcher(call);
        if (declaration.matches()) {
            return call + ";\n" + seen(call, declaration.group(2), dueFor(answer));
        }
        if (answer.startsWith("throws ")) {
            return "try {\n" + seen(call, call, quoted(answer))
                    + "} catch (RuntimeException thrown) {\n"
                    + seen(call, "\"throws \" + thrown.getClass().getSimpleName()", quoted(answer))
                    + "}\n";
        }
        return seen(call, call, dueFor(answer));
    }

    private static String dueFor(String answer) {
        return answer.replaceAll("[A-Z][A-Z_]+", "DocumentaryCreditDesk.$0");
    }

    private static String seen(String what, String got, String due) {
        return "seen.addAll(java.util.List.of(" + quoted(what) + ", String.valueOf(" + got
                + "), String.valueOf(" + due + ")));\n";
    }

    private static String quoted(String text) {
        return '"' + text.replace("\\", "\\\\").replace("\"", "\\\"").replaceAll("\\s+", " ") + '"';
    }

    /** The call, its answer and the answer due, three texts for each call. */
    private static List<String> answersOf(String source) throws Exception {
        Path directory = Files.createTempDirectory("readme");
        Path file = directory.resolve(CLASS + ".java");
        Path compiled = directory.resolve(CLASS + ".class");
        try {
            Files.writeString(file, source);
            int failed = ToolProvider.getSystemJavaCompiler().run(null, null, null, "-cp",
                    System.getProperty("java.class.path"), "-d", directory.toString(), file.toString());
            checks.due("compiling the code of README.md", failed, 0);
            return failed == 0 ? run(directory) : List.of();
        } finally {
            Files.deleteIfExists(compiled);
            Files.deleteIfExists(file);
            Files.deleteIfExists(directory);
        }
    }

    private static List<String> run(Path directory) throws Exception {
        List<String> answers = new ArrayList<>();
        try (URLClassLoader loader = new URLClassLoader(new URL[] {directory.toUri().toURL()})) {
            Object seen = loader.loadClass(CLASS).getMethod("answers").invoke(null);
            for (Object each : (List<?>) seen) {
                answers.add((String) each);
            }
        }
        return answers;
    }
}
