import java.io.File;
import java.io.IOException;
import java.io.UncheckedIOException;
import java.lang.reflect.Method;
import java.net.URL;
import java.net.URLClassLoader;
import java.nio.file.Files;
import java.nio.file.Path;
import java.util.ArrayList;
import java.util.Comparator;
import java.util.List;
import java.util.TreeSet;
import java.util.function.Supplier;
import java.util.regex.Matcher;
import java.util.regex.Pattern;
import java.util.stream.Stream;
import javax.tools.JavaCompiler;
import javax.tools.ToolProvider;

/** What README.md says is so: its calls answer what stands behind them, and its way to run a test works. */
public final class ReadmeTest extends Checks {
    private static final String MADE = "SafetyTrees trees = new SafetyTrees();";
    private static final Pattern CALL = Pattern.compile(
        "((?:int|long|boolean) (\\w+) = )?(trees\\.(\\w+)\\([^()]*\\));\\s+// (-?\\d+|true|false|throws \\w+)(?:: .*)?");
    private static final Pattern LISTED = Pattern.compile("`([A-Z]\\w+)`");
    private static final String THROWN = "throws ArithmeticException";

    /** A call that README.md shows; if a variable takes its answer, its name and what stands before the call. */
    private record Shown(String taken, String name, String call, String method, String answer) { }

    public static void main(String[] args) {
        sentence("each call shown answers what stands behind it", ReadmeTest::callsAnswerAsShown);
        sentence("each call of the face is shown", ReadmeTest::allCallsAreShown);
        sentence("a test is run as README.md says", ReadmeTest::commandsRunATest);
        sentence("each test is listed, and each test listed is there", ReadmeTest::testsAreListed);
        end();
    }

    private static void callsAnswerAsShown() {
        List<Shown> shown = shownCalls();
        List<String> answers = inScratch(directory -> run(shown, directory));
        due("answers", answers.size(), shown.size());
        for (int i = 0; i < Math.min(answers.size(), shown.size()); i++) {
            dueText(shown.get(i).call + ", call " + (i + 1), answers.get(i), shown.get(i).answer);
        }
    }

    private static void allCallsAreShown() {
        TreeSet<String> face = new TreeSet<>();
        for (Method method : SafetyTrees.class.getMethods()) {
            if (method.getDeclaringClass() == SafetyTrees.class) {
                face.add(method.getName());
            }
        }
        TreeSet<String> methods = new TreeSet<>();
        for (Shown call : shownCalls()) {
            methods.add(call.method);
        }
        dueText("README.md", methods.toString(), face.toString());
    }

    private static void commandsRunATest() {
        String commands = String.join("\n", blocks("sh"));
        due("a command is there", commands.isEmpty() ? 0 : 1, 1);
        due("exit code", inScratch(directory -> exitCode("set -e\n" + commands, directory)), 0);
        due(".ci/run is there to be run", new File(".ci/run").canExecute() ? 1 : 0, 1);
    }

    private static void testsAreListed() {
        TreeSet<String> listed = new TreeSet<>();
        for (String line : testSection()) {
            Matcher name = LISTED.matcher(line);
            while (name.find()) {
                listed.add(name.group(1));
            }
        }
        TreeSet<String> there = new TreeSet<>();
        String[] files = new File("src/test/java").list();
        for (String file : files == null ? new String[0] : files) {
            there.add(file.replace(".java", ""));
        }
        dueText("README.md", listed.toString(), there.toString());
    }

    private static List<Shown> shownCalls() {
        List<Shown> shown = new ArrayList<>();
        List<String> lines = blocks("java");
        dueText("the first line", lines.isEmpty() ? "" : lines.get(0), MADE);
        for (int i = 1; i < lines.size(); i++) {
            Matcher call = CALL.matcher(lines.get(i));
            if (!call.matches()) {
                throw new IllegalStateException("no call with its answer: " + lines.get(i));
            }
            shown.add(new Shown(call.group(1), call.group(2), call.group(3), call.group(4), call.group(5)));
        }
        return shown;
    }

    /** The lines of all blocks of code in a language, one behind the other. */
    private static List<String> blocks(String language) {
        List<String> lines = new ArrayList<>();
        boolean inside = false;
        for (String line : readme()) {
            if (line.startsWith("```")) {
                inside = line.equals("```" + language);
            } else if (inside) {
                lines.add(line);
            }
        }
        return lines;
    }

    private static List<String> testSection() {
        List<String> lines = readme();
        return lines.subList(Math.max(0, lines.indexOf("## Tests")), lines.size());
    }

    private static List<String> readme() {
        try {
            return Files.readAllLines(Path.of("README.md"));
        } catch (IOException e) {
            throw new UncheckedIOException(e);
        }
    }

    /** Compiles the calls as they stand in README.md, so that code that is not Java fails too. */
    private static List<String> run(List<Shown> shown, Path directory) throws IOException {
        Path source = directory.resolve("AsShown.java");
        Files.writeString(source, source(shown));
        JavaCompiler compiler = ToolProvider.getSystemJavaCompiler();
        String classes = System.getProperty("java.class.path");
        if (compiler.run(null, null, null, "-cp", classes, "-d", directory.toString(), source.toString()) != 0) {
            throw new IllegalStateException("README.md's calls do not compile");
        }
        URL[] places = {directory.toUri().toURL()};
        try (URLClassLoader loader = new URLClassLoader(places, ReadmeTest.class.getClassLoader())) {
            Supplier<?> made = (Supplier<?>) loader.loadClass("AsShown").getDeclaredConstructor().newInstance();
            List<String> answers = new ArrayList<>();
            for (Object answer : (List<?>) made.get()) {
                answers.add(String.valueOf(answer));
            }
            return answers;
        } catch (ReflectiveOperationException e) {
            throw new IllegalStateException(e);
        }
    }

    private static String source(List<Shown> shown) {
        StringBuilder text = new StringBuilder("import java.util.*;\n"
            + "public final class AsShown implements java.util.function.Supplier<List<Object>> {\n"
            + "public List<Object> get() {\nList<Object> answers = new ArrayList<>();\n" + MADE + "\n");
        for (Shown call : shown) {
            if (call.name != null) {
                text.append(call.taken).append(call.call).append(";\n");
                text.append("answers.add(").append(call.name).append(");\n");
            } else {
                text.append("try { answers.add(").append(call.call).append("); }\n");
                text.append("catch (ArithmeticException e) { answers.add(\"" + THROWN + "\"); }\n");
            }
        }
        return text.append("return answers;\n}\n}\n").toString();
    }

    private static int exitCode(String commands, Path directory) throws IOException {
        ProcessBuilder builder = new ProcessBuilder("sh", "-c", commands).inheritIO();
        builder.environment().put("TMPDIR", directory.toString());
        try {
            return builder.start().waitFor();
        } catch (InterruptedException e) {
            throw new IllegalStateException(e);
        }
    }

    private interface InDirectory<T> {
        T work(Path directory) throws IOException;
    }

    private static <T> T inScratch(InDirectory<T> task) {
        try {
            Path directory = Files.createTempDirectory("readme");
            try {
                return task.work(directory);
            } finally {
                delete(directory);
            }
        } catch (IOException e) {
            throw new UncheckedIOException(e);
        }
    }

    private static void delete(Path directory) throws IOException {
        try (Stream<Path> inside = Files.walk(directory)) {
            for (Path path : inside.sorted(Comparator.reverseOrder()).toList()) {
                Files.delete(path);
            }
        }
    }
}
