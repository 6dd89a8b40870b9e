import java.io.IOException;
import java.nio.charset.StandardCharsets;
import java.nio.file.Files;
import java.nio.file.Path;
import java.util.Collections;
import java.util.LinkedHashMap;
import java.util.Map;
import java.util.Set;
import java.util.TreeSet;
import java.util.regex.Matcher;
import java.util.regex.Pattern;

/** Which sentence of the document a test belongs to: in the document's own words, which must stand there. */
final class Edge {
    static final int UNKNOWN = -1, OUTSIDE = -2, STATE = -3, FULL = -4, UNREAD = -8, NONE = -9;
    static final int NULL = -11, CAST = -12, INDEX = -13, STORE = -14, SIZE = -15;
    /** GEAR k is of KIND k, of LENGTH 2 where it is one of TAKERS. */
    static final String ALL_KINDS = "gear(0,2) gear(1,2) gear(2,2) gear(3,2) gear(4,2) gear(5,2) gear(6,2) gear(7,2) gear(8,2)"
            + " gear(9,0) gear(10,0)";
    /** SCANNER 0 to CHUTE 1 to DOOR 2, which is OPEN: what can be read is OUT in the second STEP. */
    static final String SORTER = "gear(3,1) gear(7,1) gear(9,0) row:0>1 row:1>2 load::1; door(2,true)";

    /** Two WORKS with something of everything, and letters that are typed; GEAR k of WORKS 0 is of KIND k. */
    static final String RICH = ALL_KINDS
            + " row:0>3 row:3>5 row:5>8,7 row:7>9 row:8>2 row:2>6 row:6>7,1,8 row:10>0,3 row:1>4"
            + " aim(5,1,7,true) aim(6,1,39,true) aim(6,2,0,true) rank(0,9) load:D<60:7;Q7=0:39;:8; door(9,true) release(8,3)"
            + " plan(4,4,0,9,0) plan(3,5,0,9,0) plan(4,6,2,8,20) group(0,0,2) enter(0,0,0) enter(0,1,3) group(1,1,1)"
            + " group(2,3,8) come(1,5,5) label(1,12)"
            + " works(1) gear(0,1) gear(5,1) come(0,77,7) load::1; step()*2 group(3,2,1)"
            + " works(0) night(11,9) turn(6,2) come(1,5,5) type:D=1";

    private static final Path DOCUMENT = Path.of("../shared/DOC.md");
    private static final Pattern HEAD = Pattern.compile(
            "(?m)^(?:## (What it is|The public face|Terms|Promise \\d+|Not promised)|==== (\\d) )");
    private static final Map<String, String> SECTIONS = sections();
    private static final Set<String> TESTED = new TreeSet<>();

    private Edge() {
    }

    /**
     * Sections are "What it is", "The public face", "Terms" (what is ahead of its parts), "Part 1" to "Part 6", "Promise 1" to
     * "Promise 48", "Not promised".
     */
    private static Map<String, String> sections() {
        String text;
        try {
            text = Files.readString(DOCUMENT, StandardCharsets.UTF_8);
        } catch (IOException e) {
            throw new IllegalStateException(DOCUMENT + " can't be read", e);
        }
        Map<String, String> all = new LinkedHashMap<>();
        Matcher head = HEAD.matcher(text);
        String name = null;
        int start = 0;
        while (head.find()) {
            put(all, name, text.substring(start, head.start()));
            name = head.group(2) != null ? "Part " + head.group(2) : head.group(1);
            start = head.end();
        }
        put(all, name, text.substring(start));
        return all;
    }

    private static void put(Map<String, String> all, String name, String text) {
        if (name != null) {
            all.put(name, text);
        }
    }

    static Map<String, String> document() {
        return Collections.unmodifiableMap(SECTIONS);
    }

    /** What is asked from here on belongs to these words of that section. */
    static void says(String section, String words) {
        Check.about(section + ", \"" + words + "\"");
        String text = SECTIONS.getOrDefault(section, "");
        Check.due("these words stand in the document", text.contains(words) ? 1 : 0, 1);
        TESTED.add(section);
    }

    static void promise(int number, String words) {
        says("Promise " + number, words);
    }

    static void part(int number, String words) {
        says("Part " + number, words);
    }

    /** Each of these sections has a test here. */
    static void hasTested(String kind, int from, int to) {
        for (int k = from; k <= to; k++) {
            Check.about(kind + k);
            Check.due("has a test of its edges", TESTED.contains(kind + k) ? 1 : 0, 1);
        }
    }
}
