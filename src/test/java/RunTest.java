import java.io.IOException;
import java.nio.charset.StandardCharsets;
import java.nio.file.Files;
import java.nio.file.Path;
import java.util.ArrayList;
import java.util.Comparator;
import java.util.List;
import java.util.stream.Stream;

/** .ci/run runs every test, and fails if one fails: seen in small projects of this test's own, each with a folder shared. */
final class RunTest {
    private static final String PROJECT = "main/src/test/java/", SHARED = "shared/tests/", PROGRAM = "main/src/main/java/";
    /** What the main method of a test does behind the row that tells that it runs. */
    private static final String PASSES = "", ENDS_WITH_1 = "System.exit(1);", THROWS = "throw new IllegalStateException();",
            IS_NO_JAVA = "int = 1;", USES_HELPER = "new Helper();", TRUSTS_ASSERT = "assert args == null;";

    private final String what;
    private final Path folder;
    private final List<String> names = new ArrayList<>();
    private Process process;

    private RunTest(String what) throws IOException {
        this.what = what;
        folder = Files.createTempDirectory("run");
        write("main/.ci/run", Files.readString(Path.of(".ci/run"), StandardCharsets.UTF_8));
        if (!folder.resolve("main/.ci/run").toFile().setExecutable(true)) {
            throw new IOException("the script can't be made one that can be run");
        }
        write(PROGRAM + "SortWorks.java", "public final class SortWorks { }");
    }

    public static void main(String[] args) throws IOException, InterruptedException {
        List<RunTest> failing = List.of(
                new RunTest("a given test ends with 1").has(SHARED, "GivenOne", ENDS_WITH_1).has(SHARED, "GivenTwo", PASSES)
                        .has(PROJECT, "ATest", PASSES),
                new RunTest("the last given test throws").has(SHARED, "GivenOne", PASSES).has(SHARED, "GivenTwo", THROWS)
                        .has(PROJECT, "ATest", PASSES),
                new RunTest("the first test of the project ends with 1").has(SHARED, "Given", PASSES)
                        .has(PROJECT, "ATest", ENDS_WITH_1).has(PROJECT, "BTest", PASSES),
                new RunTest("the last test of the project throws").has(SHARED, "Given", PASSES).has(PROJECT, "ATest", PASSES)
                        .has(PROJECT, "BTest", THROWS),
                new RunTest("an assert of the project does not hold").has(SHARED, "Given", PASSES)
                        .has(PROJECT, "ATest", TRUSTS_ASSERT));
        RunTest broken = new RunTest("a test is not compiled").has(SHARED, "Given", PASSES).has(PROJECT, "BTest", PASSES);
        broken.write(PROJECT + "ATest.java", sourceOf("ATest", IS_NO_JAVA));
        RunTest noProgram = new RunTest("the class is not compiled").has(SHARED, "Given", PASSES).has(PROJECT, "ATest", PASSES);
        noProgram.write(PROGRAM + "SortWorks.java", "public final class SortWorks {");
        RunTest noGiven = new RunTest("there is no given test").has(PROJECT, "ATest", PASSES);
        RunTest noOwn = new RunTest("there is no test of the project").has(SHARED, "Given", PASSES);
        RunTest right = new RunTest("all pass").has(SHARED, "GivenOne", PASSES).has(SHARED, "GivenTwo", PASSES)
                .has(PROJECT, "ATest", PASSES).has(PROJECT, "BTest", USES_HELPER);
        right.write(PROJECT + "Helper.java", "class Helper { public static void main(String[] args) { System.exit(1); } }");

        List<RunTest> all = new ArrayList<>(failing);
        all.addAll(List.of(broken, noProgram, noGiven, noOwn, right));
        for (RunTest each : all) {
            each.start();
        }
        for (RunTest each : failing) {
            each.ends(false, each.names);
        }
        broken.ends(false, broken.names);
        noProgram.ends(false, List.of());
        noGiven.ends(false, List.of());
        noOwn.ends(false, noOwn.names);
        right.ends(true, right.names);
        Check.end();
    }

    private static String sourceOf(String name, String does) {
        return "public class " + name + " { public static void main(String[] args) { new SortWorks(); System.out.println(\"ran "
                + name + "\"); " + does + " } }";
    }

    private RunTest has(String where, String name, String does) throws IOException {
        names.add(name);
        write(where + name + ".java", sourceOf(name, does));
        return this;
    }

    private void write(String where, String text) throws IOException {
        Path file = folder.resolve(where);
        Files.createDirectories(file.getParent());
        Files.writeString(file, text, StandardCharsets.UTF_8);
    }

    /** From another folder than the project's: the script must find its way by itself. */
    private void start() throws IOException {
        process = new ProcessBuilder("main/.ci/run").directory(folder.toFile()).redirectErrorStream(true)
                .redirectOutput(folder.resolve("printed").toFile()).start();
    }

    private void ends(boolean right, List<String> run) throws IOException, InterruptedException {
        Check.about(".ci/run, if " + what);
        boolean isRight = process.waitFor() == 0;
        String printed = Files.readString(folder.resolve("printed"), StandardCharsets.UTF_8);
        Check.due("passes; it printed " + printed, isRight ? 1 : 0, right ? 1 : 0);
        for (String name : run) {
            Check.due("runs " + name + "; it printed " + printed, printed.contains("ran " + name + "\n") ? 1 : 0, 1);
        }
        try (Stream<Path> files = Files.walk(folder)) {
            files.sorted(Comparator.reverseOrder()).forEach(file -> file.toFile().delete());
        }
    }
}
