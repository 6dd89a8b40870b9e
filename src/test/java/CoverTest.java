import java.io.IOException;
import java.nio.charset.StandardCharsets;
import java.nio.file.DirectoryStream;
import java.nio.file.Files;
import java.nio.file.Path;
import java.util.Arrays;
import java.util.LinkedHashMap;
import java.util.Map;
import java.util.regex.Matcher;
import java.util.regex.Pattern;

/**
 * All that the document says, from its first line on, is quoted by a test (Edge.promise(), part(), says()). Whether what stands
 * under a quote asks for what it says can't be seen here.
 */
final class CoverTest {
    private static final Path TESTS = Path.of("src/test/java");
    private static final String TEXT = "\"(?:[^\"\\\\]|\\\\.)*\"";
    private static final Pattern QUOTE = Pattern.compile("Edge\\.(promise|part|says)\\(\\s*(\\d+|" + TEXT + "),\\s*(" + TEXT
            + "(?:\\s*\\+\\s*" + TEXT + ")*)\\)");
    /** The heading of a promise and its method (LanguageTest has them), and fences. */
    private static final Pattern FRAME = Pattern.compile("\\A: [\\w ]+\\n\\n`[^`]*`:|(?m)^```(text)?$");

    private static final Map<String, boolean[]> QUOTED = new LinkedHashMap<>();

    public static void main(String[] args) throws IOException {
        for (Map.Entry<String, String> section : Edge.document().entrySet()) {
            boolean[] quoted = new boolean[section.getValue().length()];
            Matcher frame = FRAME.matcher(section.getValue());
            while (frame.find()) {
                Arrays.fill(quoted, frame.start(), frame.end(), true);
            }
            QUOTED.put(section.getKey(), quoted);
        }
        // LanguageTest reads the face as it stands there; of what is not promised there is nothing to ask for.
        QUOTED.remove("The public face");
        QUOTED.remove("Not promised");
        try (DirectoryStream<Path> files = Files.newDirectoryStream(TESTS, "*Test.java")) {
            for (Path file : files) {
                quotesOf(Files.readString(file, StandardCharsets.UTF_8));
            }
        }
        for (String name : QUOTED.keySet()) {
            isWhole(name);
        }
        Check.end();
    }

    private static void quotesOf(String source) {
        Matcher quote = QUOTE.matcher(source);
        while (quote.find()) {
            String section = quote.group(2).replace("\"", "");
            String name = quote.group(1).equals("promise") ? "Promise " + section
                    : quote.group(1).equals("part") ? "Part " + section : section;
            StringBuilder words = new StringBuilder();
            Matcher text = Pattern.compile(TEXT).matcher(quote.group(3));
            while (text.find()) {
                words.append(text.group(), 1, text.group().length() - 1);
            }
            mark(name, words.toString());
        }
    }

    private static void mark(String name, String words) {
        Check.about(name + ", \"" + words + "\"");
        String text = Edge.document().getOrDefault(name, "");
        int start = text.indexOf(words);
        Check.due("these words stand in the document", start >= 0 ? 1 : 0, 1);
        if (start >= 0 && QUOTED.containsKey(name)) {
            Arrays.fill(QUOTED.get(name), start, start + words.length(), true);
        }
    }

    /** What is left between quotes may be signs alone. */
    private static void isWhole(String name) {
        Check.about(name);
        StringBuilder left = new StringBuilder();
        boolean[] quoted = QUOTED.get(name);
        for (int i = 0; i < quoted.length; i++) {
            left.append(quoted[i] ? '\n' : Edge.document().get(name).charAt(i));
        }
        for (String words : left.toString().split("\n+")) {
            boolean isSaid = words.chars().anyMatch(Character::isLetterOrDigit);
            Check.due("a test quotes \"" + words.trim() + "\"", isSaid ? 0 : 1, 1);
        }
    }
}
