import java.io.IOException;
import java.net.URI;
import java.net.URL;
import java.net.URLClassLoader;
import java.nio.charset.StandardCharsets;
import java.nio.file.DirectoryStream;
import java.nio.file.Files;
import java.nio.file.Path;
import java.util.ArrayList;
import java.util.List;
import java.util.Set;
import java.util.TreeSet;
import java.util.function.Supplier;
import java.util.regex.Matcher;
import java.util.regex.Pattern;
import javax.tools.JavaCompiler;
import javax.tools.JavaFileObject;
import javax.tools.SimpleJavaFileObject;
import javax.tools.ToolProvider;

/** README.md is right: the calls that it shows answer as it says, and its tests are those that there are, run as it says. */
final class ReadmeTest {
    private static final Path README = Path.of("README.md");
    private static final Path RUN = Path.of(".ci/run");
    private static final Path TESTS = Path.of("src/test/java");
    /** A call that is shown: a name for its answer, the call, the answer. */
    private static final Pattern SHOWN = Pattern.compile("(?:int (\\w+) = )?(x\\.\\w+\\(.*\\));\\s*// = (-?\\d+|[A-Z]+)(:.*)?");
    private static final Pattern CALL = Pattern.compile("(int \\w+ = )?x\\.\\w+\\(.*");

    public static void main(String[] args) throws Exception {
        String readme = Files.readString(README, StandardCharsets.UTF_8);
        List<String> examples = blocksOf(readme, "java");
        Check.about("what README.md shows");
        Check.due("there is something shown", examples.isEmpty() ? 0 : 1, 1);
        for (int k = 0; k < examples.size(); k++) {
            isRight("Shown" + k, examples.get(k));
        }
        testsAreNamed(readme);
        runsAsTold(readme);
        Check.end();
    }

    private static List<String> blocksOf(String readme, String language) {
        List<String> blocks = new ArrayList<>();
        Matcher block = Pattern.compile("(?s)\n```" + language + "\n(.*?)\n```\n").matcher(readme);
        while (block.find()) {
            blocks.add(block.group(1));
        }
        return blocks;
    }

    // ---- the use of the class

    private static void isRight(String name, String example) throws Exception {
        List<String> shown = new ArrayList<>();
        String source = programOf(name, example, shown);
        Path classes = Files.createTempDirectory("readme");
        try {
            Check.due(example + "\nis compiled", compile(name, source, classes) ? 1 : 0, 1);
            List<long[]> answers = run(name, classes);
            Check.due("calls of " + name + " that are shown with their answers", answers.size(), shown.size());
            for (int i = 0; i < answers.size(); i++) {
                Check.due(shown.get(i), answers.get(i)[0], answers.get(i)[1]);
            }
        } finally {
            remove(classes);
        }
    }

    /** The example as a class that gives, for each call that is shown with its answer, what it answered and what is due. */
    private static String programOf(String name, String example, List<String> shown) {
        StringBuilder source = new StringBuilder("public final class " + name
                + " implements java.util.function.Supplier<java.util.List<long[]>> {\n"
                + "public java.util.List<long[]> get() {\njava.util.List<long[]> answers = new java.util.ArrayList<>();\n");
        for (String line : example.split("\n")) {
            Matcher call = SHOWN.matcher(line);
            if (!call.matches()) {
                Check.due(line + " has an answer behind it", CALL.matcher(line).matches() ? 0 : 1, 1);
                source.append(line).append('\n');
                continue;
            }
            shown.add(line);
            String due = Character.isLetter(call.group(3).charAt(0)) ? "SortWorks." + call.group(3) : call.group(3);
            String got = call.group(1) == null ? call.group(2) : call.group(1);
            if (call.group(1) != null) {
                source.append("int ").append(got).append(" = ").append(call.group(2)).append(";\n");
            }
            source.append("answers.add(new long[] {").append(got).append(", ").append(due).append("});\n");
        }
        return source.append("return answers;\n}\n}\n").toString();
    }

    private static boolean compile(String name, String source, Path classes) {
        JavaFileObject file = new SimpleJavaFileObject(URI.create("string:///" + name + ".java"), JavaFileObject.Kind.SOURCE) {
            @Override
            public CharSequence getCharContent(boolean ignoreEncodingErrors) {
                return source;
            }
        };
        JavaCompiler compiler = ToolProvider.getSystemJavaCompiler();
        List<String> options = List.of("-proc:none", "-cp", System.getProperty("java.class.path"), "-d", classes.toString());
        return compiler.getTask(null, null, null, options, null, List.of(file)).call();
    }

    @SuppressWarnings("unchecked")
    private static List<long[]> run(String name, Path classes) throws Exception {
        try (URLClassLoader loader = new URLClassLoader(new URL[] {classes.toUri().toURL()})) {
            return ((Supplier<List<long[]>>) loader.loadClass(name).getDeclaredConstructor().newInstance()).get();
        }
    }

    private static void remove(Path folder) throws IOException {
        try (DirectoryStream<Path> files = Files.newDirectoryStream(folder)) {
            for (Path file : files) {
                Files.delete(file);
            }
        }
        Files.delete(folder);
    }

    // ---- its tests

    private static void testsAreNamed(String readme) throws IOException {
        Check.about("the tests that README.md names");
        Set<String> named = new TreeSet<>();
        Matcher row = Pattern.compile("(?m)^\\| (`.*?`) \\|").matcher(readme);
        while (row.find()) {
            for (String name : row.group(1).split(", ")) {
                Check.due(name + " is named once", named.add(name.replace("`", "")) ? 1 : 0, 1);
            }
        }
        Set<String> there = new TreeSet<>();
        try (DirectoryStream<Path> files = Files.newDirectoryStream(TESTS, "*Test.java")) {
            for (Path file : files) {
                there.add(file.getFileName().toString().replace(".java", ""));
            }
        }
        Check.due("those named, " + named + ", are those that there are, " + there, named.equals(there) ? 1 : 0, 1);
    }

    private static void runsAsTold(String readme) throws IOException, InterruptedException {
        Check.about("how README.md runs tests");
        Check.due(".ci/run can be run", Files.isExecutable(RUN) ? 1 : 0, 1);
        Check.due("README.md names it", readme.contains("\n    .ci/run\n") ? 1 : 0, 1);
        List<String> shell = blocksOf(readme, "sh");
        Check.due("how one test is run is told once", shell.size(), 1);
        String told = String.join("\n", shell);
        String run = Files.readString(RUN, StandardCharsets.UTF_8);
        isAsInRun(told, run, "javac -sourcepath \"$2\" -d \"$classes\" \"$program\" \"$1\"");
        isAsInRun(told, run, "java -ea -cp \"$classes\" \"$(basename \"$1\" .java)\"");
        // In a folder for temporary files that is gone behind it.
        String script = "top=$(mktemp -d); export TMPDIR=$top; trap 'rm -rf \"$top\"' EXIT\n" + told;
        Process made = new ProcessBuilder("bash", "-eu", "-c", script).redirectErrorStream(true).start();
        String printed = new String(made.getInputStream().readAllBytes(), StandardCharsets.UTF_8);
        Check.due(told + "\nends with, having printed " + printed, made.waitFor(), 0);
        Check.due(told + "\nplays 100 runs: " + printed, printed.contains("100 runs, 0 that") ? 1 : 0, 1);
    }

    /** The command stands in .ci/run, and in README.md with ModelTest in place of what .ci/run is given. */
    private static void isAsInRun(String told, String run, String command) {
        Check.due(".ci/run has " + command, run.contains(command) ? 1 : 0, 1);
        String forOne = command.replace("\"$(basename \"$1\" .java)\"", "ModelTest").replace("\"$2\"", "src/test/java")
                .replace("$classes", "$built").replace("\"$program\"", "src/main/java/SortWorks.java")
                .replace("\"$1\"", "src/test/java/ModelTest.java");
        Check.due("README.md has " + forOne, told.contains(forOne) ? 1 : 0, 1);
    }
}
