import java.io.IOException;
import java.lang.reflect.Field;
import java.lang.reflect.InvocationTargetException;
import java.lang.reflect.Method;
import java.lang.reflect.Modifier;
import java.net.URL;
import java.net.URLClassLoader;
import java.nio.file.DirectoryStream;
import java.nio.file.Files;
import java.nio.file.Path;
import java.util.ArrayList;
import java.util.List;
import java.util.regex.Matcher;
import java.util.regex.Pattern;
import javax.tools.JavaCompiler;
import javax.tools.ToolProvider;

/**
 * README.md: its examples are compiled as they stand there, and every call in them answers what
 * stands behind it; every call of the class and every test is named.
 */
public final class ReadmeTest {
    private static final String EXCEPTION = "I[A-Za-z]+Exception";
    private static final Pattern CALL = Pattern.compile("(?:int (\\w+) = )?(store\\.[^;]*);(?: *// (.*))?");
    private static final Pattern ANSWER = Pattern.compile(
            "(-?[0-9]+|true|false|[A-Z]+|" + EXCEPTION + ")(?:: [^ ].*)?");
    private static final Pattern FILE = Pattern.compile("(?<![\\w/.])(?:src|\\.ci)/[\\w/.*]+");
    private static final Pattern RUN = Pattern.compile("java -cp (\\S+) (\\w+)");

    private static int line;
    private static int checked;

    private ReadmeTest() {
    }

    public static void main(String[] arguments) throws Exception {
        List<String> readme = Files.readAllLines(Path.of("README.md"));
        runExamples(readme);
        namesEveryConstant(String.join(" ", readme));
        namesEveryCall(String.join("\n", readme));
        namesEveryTest(String.join("\n", readme));
        Check.due("README.md tells the limit of calls",
                String.join(" ", readme).contains("An object is used for at most 512 calls"), true);
        commandsFindTheirFiles(readme);
        Check.end("ReadmeTest");
    }

    // ---- what the compiled examples call

    public static void at(int newLine) {
        line = newLine;
    }

    public static void due(long got, long want) {
        checked++;
        Check.due("README.md, line " + line, got, want);
    }

    public static void due(boolean got, boolean want) {
        checked++;
        Check.due("README.md, line " + line, got, want);
    }

    public static void thrown(String got, String want) {
        checked++;
        Check.due("README.md, line " + line, got, want);
    }

    // ---- the examples

    private static void runExamples(List<String> readme) throws Exception {
        StringBuilder source = new StringBuilder("public final class ReadmeExamples {\n");
        int examples = 0;
        int calls = 0;
        boolean inside = false;
        for (int i = 0; i < readme.size(); i++) {
            String text = readme.get(i);
            if (text.equals("```java")) {
                inside = true;
                examples++;
                source.append("public static void example").append(examples).append("() {\n");
            } else if (inside && text.equals("```")) {
                inside = false;
                source.append("}\n");
            } else if (inside) {
                source.append("ReadmeTest.at(").append(i + 1).append(");\n");
                source.append(statement(i + 1, text)).append('\n');
                calls += text.startsWith("store.") || text.contains(" = store.") ? 1 : 0;
            }
        }
        source.append("}\n");
        runAll(compile(source.toString()), examples);
        Check.due("README.md has examples", examples >= 8, true);
        Check.due("the answers in README.md that were looked at", checked, calls);
    }

    /** A line of an example, with the comparison of its answer in place of the remark. */
    private static String statement(int number, String text) {
        Matcher call = CALL.matcher(text);
        if (!call.matches()) {
            return text;
        }
        Matcher answer = ANSWER.matcher(call.group(3) == null ? "" : call.group(3));
        if (!answer.matches()) {
            Check.report("README.md, line " + number + " does not tell its answer");
            return text;
        }
        String want = answer.group(1);
        if (want.matches(EXCEPTION)) {
            return "{ String got = \"nothing\"; try { " + call.group(2) + "; } catch (RuntimeException thrown) "
                    + "{ got = thrown.getClass().getSimpleName(); } ReadmeTest.thrown(got, \"" + want + "\"); }";
        }
        if (want.matches("[A-Z]+")) {
            want = "CommitWaitStore." + want;
        }
        if (call.group(1) == null) {
            return "ReadmeTest.due(" + call.group(2) + ", " + want + ");";
        }
        return "int " + call.group(1) + " = " + call.group(2) + "; ReadmeTest.due(" + call.group(1) + ", " + want + ");";
    }

    private static Class<?> compile(String source) throws Exception {
        Path folder = Files.createTempDirectory("readme");
        Path file = folder.resolve("ReadmeExamples.java");
        Files.writeString(file, source);
        JavaCompiler compiler = ToolProvider.getSystemJavaCompiler();
        int result = compiler.run(null, null, null, "-d", folder.toString(),
                "-cp", System.getProperty("java.class.path"), file.toString());
        Check.due("the compiler, on the examples of README.md", result, 0);
        if (result != 0) {
            return null;
        }
        try (URLClassLoader loader = new URLClassLoader(new URL[] {folder.toUri().toURL()},
                ReadmeTest.class.getClassLoader())) {
            return loader.loadClass("ReadmeExamples");
        } finally {
            remove(folder);
        }
    }

    private static void remove(Path folder) throws IOException {
        for (Path inside : filesIn(folder)) {
            Files.delete(inside);
        }
        Files.delete(folder);
    }

    private static void runAll(Class<?> compiled, int examples) throws Exception {
        for (int example = 1; compiled != null && example <= examples; example++) {
            try {
                compiled.getMethod("example" + example).invoke(null);
            } catch (InvocationTargetException broken) {
                Check.report("README.md, line " + line + " throws " + broken.getCause());
            }
        }
    }

    // ---- what is named

    private static void namesEveryConstant(String readme) throws IllegalAccessException {
        for (Field field : CommitWaitStore.class.getDeclaredFields()) {
            if (Modifier.isPublic(field.getModifiers())) {
                Check.due("README.md tells of " + field.getName(),
                        readme.contains("`" + field.getName() + "` (" + field.getInt(null)), true);
            }
        }
    }

    private static void namesEveryCall(String readme) {
        for (Method method : CommitWaitStore.class.getDeclaredMethods()) {
            if (Modifier.isPublic(method.getModifiers())) {
                StringBuilder form = new StringBuilder("`" + method.getName() + "\\(");
                for (int i = 0; i < method.getParameterCount(); i++) {
                    form.append(i == 0 ? "" : ", ").append("[a-z]+");
                }
                boolean isNamed = Pattern.compile(form + "\\)`[^|]*\\|").matcher(readme).find();
                Check.due("README.md tells of " + method.getName(), isNamed, true);
            }
        }
    }

    private static void namesEveryTest(String readme) throws IOException {
        for (Path file : filesIn(Path.of("src/test/java"))) {
            String name = file.getFileName().toString().replace(".java", "");
            if (name.endsWith("Test")) {
                Check.due("README.md tells of " + name, readme.contains("\n| `" + name + "` |"), true);
            }
        }
        Matcher row = Pattern.compile("\n\\| `(\\w+Test)` \\|").matcher(readme);
        while (row.find()) {
            Check.due(row.group(1) + " is there", Files.exists(Path.of("src/test/java", row.group(1) + ".java")), true);
        }
    }

    /**
     * The commands for the tests: each file of the project that they name is there, and each class
     * that they run was compiled. Which tests stand under ../shared is not this project's to say.
     */
    private static void commandsFindTheirFiles(List<String> readme) {
        List<String> commands = new ArrayList<>();
        boolean inside = false;
        for (String text : readme) {
            if (text.startsWith("```")) {
                inside = text.equals("```sh");
            } else if (inside) {
                commands.add(text);
            }
        }
        Check.due("README.md tells how to run all tests", commands.contains("bash .ci/run"), true);
        String compiled = "";
        int runs = 0;
        for (String command : commands) {
            Matcher file = FILE.matcher(command);
            while (file.find()) {
                Path path = Path.of(file.group().replace("*.java", ""));
                Check.due(file.group() + " is there", Files.exists(path), true);
            }
            Matcher run = RUN.matcher(command);
            if (run.matches()) {
                runs++;
                Check.due(command + " runs what was compiled", compiled.startsWith("javac -d " + run.group(1) + " ")
                        && (compiled.contains("/" + run.group(2) + ".java") || compiled.contains("/*.java")
                        && Files.exists(Path.of("src/test/java", run.group(2) + ".java"))), true);
            }
            compiled = command;
        }
        Check.due("README.md tells how to run one test by itself", runs >= 1, true);
    }

    private static List<Path> filesIn(Path folder) throws IOException {
        List<Path> files = new ArrayList<>();
        try (DirectoryStream<Path> all = Files.newDirectoryStream(folder)) {
            all.forEach(files::add);
        }
        return files;
    }
}
