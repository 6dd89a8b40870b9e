import java.io.IOException;
import java.nio.charset.StandardCharsets;
import java.nio.file.Files;
import java.nio.file.Path;
import java.util.ArrayList;
import java.util.Comparator;
import java.util.List;
import java.util.stream.Stream;

/** .ci/run runs every test, and fails if one fails: seen in small projects of this test's own, each with a folder shared. */
final class RunTest {
    private static final String PROJECT = "main/src/test/java/", SHARED = "shared/tests/", PROGRAM = "main/src/main/java/";
    /** What the main method of a test does behind the row that tells that it runs. */
    private static final String PASSES = "", ENDS_WITH_1 = "System.exit(1);", THROWS = "throw new IllegalStateException();",
            USES_HELPER = "new Helper();", ASSERTS = "assert args == null;";
    /** So many at once, so that little room is needed. */
    private static final int AT_ONCE = 3;

    private final String what;
    private final Path folder;
    private final List<String> dueToRun = new ArrayList<>();
    private boolean isDueToPass;
    private Process process;

    private RunTest(String what) throws IOException {
        this.what = what;
        folder = Files.createTempDirectory("run");
        write("main/.ci/run", Files.readString(Path.of(".ci/run"), StandardCharsets.UTF_8));
        if (!folder.resolve("main/.ci/run").toFile().setExecutable(true)) {
            throw new IOException("the script can't be made one that can be run");
        }
        write(PROGRAM + "SortWorks.java", "public final class SortWorks { }");
    }

    public static void main(String[] args) throws IOException, InterruptedException {
        List<RunTest> all = new ArrayList<>();
        all.add(new RunTest("all pass").has(SHARED, "GivenOne", PASSES).has(SHARED, "GivenTwo", PASSES)
                .has(PROJECT, "ATest", PASSES).has(PROJECT, "BTest", USES_HELPER).passes()
                .write(PROJECT + "Helper.java", "class Helper { public static void main(String[] args) { System.exit(1); } }"));
        addFailing(all);
        addLacking(all);
        for (int i = 0; i < all.size(); i += AT_ONCE) {
            List<RunTest> some = all.subList(i, Math.min(i + AT_ONCE, all.size()));
            for (RunTest each : some) {
                each.start();
            }
            for (RunTest each : some) {
                each.endsAsDue();
            }
        }
        Check.end();
    }

    /** One test fails: all others are run all the same. */
    private static void addFailing(List<RunTest> all) throws IOException {
        all.add(new RunTest("the first given test ends with 1").has(SHARED, "GivenOne", ENDS_WITH_1)
                .has(SHARED, "GivenTwo", PASSES).has(PROJECT, "ATest", PASSES));
        all.add(new RunTest("the last given test throws").has(SHARED, "GivenOne", PASSES).has(SHARED, "GivenTwo", THROWS)
                .has(PROJECT, "ATest", PASSES));
        all.add(new RunTest("the first test of the project ends with 1").has(SHARED, "Given", PASSES)
                .has(PROJECT, "ATest", ENDS_WITH_1).has(PROJECT, "BTest", PASSES));
        all.add(new RunTest("the last test of the project throws").has(SHARED, "Given", PASSES).has(PROJECT, "ATest", PASSES)
                .has(PROJECT, "BTest", THROWS));
        all.add(new RunTest("an assert does not hold").has(SHARED, "Given", PASSES).has(PROJECT, "ATest", ASSERTS));
        all.add(new RunTest("a test is not compiled").has(SHARED, "Given", PASSES).has(PROJECT, "BTest", PASSES)
                .write(PROJECT + "ATest.java", "public class ATest {"));
    }

    /** There is nothing to run, or nothing to run it with. */
    private static void addLacking(List<RunTest> all) throws IOException {
        all.add(new RunTest("there is no test of the project").has(SHARED, "Given", PASSES));
        all.add(new RunTest("there is no given test").write(PROJECT + "ATest.java", sourceOf("ATest", PASSES)));
        all.add(new RunTest("the class is not compiled").write(SHARED + "Given.java", sourceOf("Given", PASSES))
                .write(PROJECT + "ATest.java", sourceOf("ATest", PASSES))
                .write(PROGRAM + "SortWorks.java", "public final class SortWorks {"));
    }

    private static String sourceOf(String name, String does) {
        return "public class " + name + " { public static void main(String[] args) { new SortWorks(); System.out.println(\"ran "
                + name + "\"); " + does + " } }";
    }

    /** A test that is due to be run. */
    private RunTest has(String where, String name, String does) throws IOException {
        dueToRun.add(name);
        return write(where + name + ".java", sourceOf(name, does));
    }

    private RunTest passes() {
        isDueToPass = true;
        return this;
    }

    private RunTest write(String where, String text) throws IOException {
        Path file = folder.resolve(where);
        Files.createDirectories(file.getParent());
        Files.writeString(file, text, StandardCharsets.UTF_8);
        return this;
    }

    /** From another folder than the project's: the script must find its way by itself. */
    private void start() throws IOException {
        process = new ProcessBuilder("main/.ci/run").directory(folder.toFile()).redirectErrorStream(true)
                .redirectOutput(folder.resolve("printed").toFile()).start();
    }

    private void endsAsDue() throws IOException, InterruptedException {
        Check.about(".ci/run, if " + what);
        boolean isPassed = process.waitFor() == 0;
        String printed = Files.readString(folder.resolve("printed"), StandardCharsets.UTF_8);
        Check.due("passes; it printed " + printed, isPassed ? 1 : 0, isDueToPass ? 1 : 0);
        for (String name : dueToRun) {
            Check.due("runs " + name + "; it printed " + printed, printed.contains("ran " + name + "\n") ? 1 : 0, 1);
        }
        try (Stream<Path> files = Files.walk(folder)) {
            files.sorted(Comparator.reverseOrder()).forEach(file -> file.toFile().delete());
        }
    }
}
