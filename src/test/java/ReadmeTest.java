import java.io.IOException;
import java.lang.reflect.Method;
import java.net.URL;
import java.net.URLClassLoader;
import java.nio.file.Files;
import java.nio.file.Path;
import java.util.ArrayList;
import java.util.List;
import java.util.TreeSet;
import java.util.regex.Matcher;
import java.util.regex.Pattern;
import java.util.stream.Stream;
import javax.tools.ToolProvider;

/** What README.md says is so: its example answers as it tells, and what it names is there, all of it. */
public final class ReadmeTest {
    private static final Path README = Path.of("README.md");
    private static final Pattern BLOCK = Pattern.compile("```java\n(.*?)```", Pattern.DOTALL);
    private static final Pattern ANSWER = Pattern.compile("int (\\w+) = .*; +// (-?\\d+)(:.*)?");
    private static final Pattern REFUSED = Pattern.compile("(hotel\\..*;) +// throws (\\w+)(:.*)?");
    private static final Pattern CALL_ROW = Pattern.compile("\\| (\\d+) \\| `(\\w+)\\((.*)\\)` \\| .+ \\|");
    private static final Pattern TEST_ROW = Pattern.compile("\\| `(\\w+)` \\| .+ \\|");
    private static final Pattern DOCUMENT_PROMISE =
            Pattern.compile("## Promise (\\d+): .*\n\n`(?:int )?(\\w+)\\((.*?)\\)");

    private ReadmeTest() {
    }

    public static void main(String[] args) throws Exception {
        String readme = Files.readString(README);
        examples(readme);
        calls(readme);
        tests(readme);
        files(readme);
        Check.end("ReadmeTest");
    }

    private static void examples(String readme) throws Exception {
        Path directory = Files.createTempDirectory("readme");
        try {
            Matcher block = BLOCK.matcher(readme);
            Check.due("README.md has the class's example", block.find() ? 1 : 0, 1);
            ownExample(directory, block.group(1));
            Check.due("README.md has the tests' example", block.find() ? 1 : 0, 1);
            compile(directory, "EdgeExample", "final class EdgeExample {\n    public static void main(String[] args) {\n"
                    + block.group(1) + "    }\n}\n");
            testsExample(block.group(1));
        } finally {
            try (Stream<Path> files = Files.list(directory)) {
                for (Path file : files.toList()) {
                    Files.delete(file);
                }
            }
            Files.delete(directory);
        }
    }

    /** The example is compiled as it stands, each line that tells an answer with a line that notes the answer. */
    private static void ownExample(Path directory, String block) throws Exception {
        List<String> due = new ArrayList<>();
        StringBuilder s = new StringBuilder("public final class OwnExample {\n");
        s.append("    public static void run(java.util.List<String> noted) {\n");
        for (String line : block.split("\n")) {
            Matcher answer = ANSWER.matcher(line);
            Matcher refused = REFUSED.matcher(line);
            if (answer.matches()) {
                s.append(line).append("\nnoted.add(\"\" + ").append(answer.group(1)).append(");\n");
                due.add(answer.group(2));
            } else if (refused.matches()) {
                s.append("try {\n").append(refused.group(1)).append("\nnoted.add(\"taken\");\n");
                s.append("} catch (RuntimeException e) {\nnoted.add(e.getClass().getSimpleName());\n}\n");
                due.add(refused.group(2));
            } else {
                Check.due("a line of README.md that begins with int tells its answer: " + line,
                        line.startsWith("int ") ? 1 : 0, 0);
                s.append(line).append('\n');
            }
        }
        compile(directory, "OwnExample", s.append("    }\n}\n").toString());
        List<String> noted = new ArrayList<>();
        try (URLClassLoader loader = new URLClassLoader(new URL[] {directory.toUri().toURL()},
                ReadmeTest.class.getClassLoader())) {
            Method run = loader.loadClass("OwnExample").getMethod("run", List.class);
            run.invoke(null, noted);
        }
        Check.due("the answers of README.md's example", noted.toString(), due.toString());
        Check.due("README.md's example tells answers", due.size() >= 10 ? 1 : 0, 1);
    }

    private static void testsExample(String block) {
        int sentence = block.indexOf('"') + 1;
        int run = block.indexOf("\"\"\"") + 3;
        Edge.edge(block.substring(sentence, block.indexOf('"', sentence)),
                block.substring(run, block.indexOf("\"\"\"", run)));
    }

    private static void compile(Path directory, String name, String source) throws IOException {
        Path file = directory.resolve(name + ".java");
        Files.writeString(file, source);
        int failed = ToolProvider.getSystemJavaCompiler().run(null, null, null, "-nowarn", "-proc:none",
                "-classpath", System.getProperty("java.class.path"), "-d", directory.toString(), file.toString());
        Check.due("README.md's " + name + " is compiled", failed, 0);
    }

    /** The table of calls against the document: each promise, its call and the call's arguments, in order. */
    private static void calls(String readme) throws IOException {
        List<String> due = new ArrayList<>();
        Matcher promise = DOCUMENT_PROMISE.matcher(Files.readString(Path.of("../shared/DOC.md")));
        while (promise.find()) {
            due.add(promise.group(1) + " " + promise.group(2) + "(" + promise.group(3) + ")");
        }
        List<String> found = new ArrayList<>();
        TreeSet<String> names = new TreeSet<>();
        for (String line : readme.split("\n")) {
            Matcher row = CALL_ROW.matcher(line);
            if (row.matches()) {
                found.add(row.group(1) + " " + row.group(2) + "(" + row.group(3) + ")");
                names.add(row.group(2));
            }
        }
        Check.due("the promises of the document", due.size(), 30);
        Check.due("the calls that README.md tells", found.toString(), due.toString());
        names.remove("BoilerCascade");
        TreeSet<String> face = new TreeSet<>();
        for (Method m : BoilerCascade.class.getMethods()) {
            if (m.getDeclaringClass() == BoilerCascade.class) {
                face.add(m.getName());
            }
        }
        Check.due("the names of the calls that README.md tells", names.toString(), face.toString());
    }

    private static void tests(String readme) throws IOException {
        TreeSet<String> told = new TreeSet<>();
        for (String line : readme.split("\n")) {
            Matcher row = TEST_ROW.matcher(line);
            if (row.matches()) {
                told.add(row.group(1));
            }
        }
        Check.due("the tests that README.md tells", told.toString(), classesIn("src/test/java").toString());
        for (String helper : classesIn("src/test/support")) {
            Check.due("README.md tells of " + helper, readme.contains("`" + helper + "`") ? 1 : 0, 1);
        }
    }

    private static TreeSet<String> classesIn(String directory) throws IOException {
        TreeSet<String> names = new TreeSet<>();
        try (Stream<Path> files = Files.list(Path.of(directory))) {
            for (Path file : files.toList()) {
                names.add(file.getFileName().toString().replace(".java", ""));
            }
        }
        return names;
    }

    private static void files(String readme) {
        String[] named = {"src/main/java/BoilerCascade.java", "../shared/DOC.md", "../shared/LANGUAGE.md",
            "src/test/java", "src/test/support", "../shared/tests", ".ci/run"};
        for (String file : named) {
            Check.due("README.md names " + file, readme.contains(file) ? 1 : 0, 1);
            Check.due("there is " + file, Files.exists(Path.of(file)) ? 1 : 0, 1);
        }
        Check.due(".ci/run can be run", Files.isExecutable(Path.of(".ci/run")) ? 1 : 0, 1);
    }
}
