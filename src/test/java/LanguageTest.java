import java.io.IOException;
import java.lang.reflect.Constructor;
import java.lang.reflect.Field;
import java.lang.reflect.Method;
import java.lang.reflect.Modifier;
import java.nio.charset.StandardCharsets;
import java.nio.file.Files;
import java.nio.file.Path;
import java.util.Arrays;
import java.util.Set;
import java.util.TreeSet;
import java.util.regex.Matcher;
import java.util.regex.Pattern;

/** The face of the document, and those rules of LANGUAGE.md that a look at the source or the classes can tell. */
final class LanguageTest {
    private static final String[] FACE = {
        "int works(int)", "int gear(int,int)", "int links(int,int)", "int link(int,int,int)",
        "int aim(int,int,int,boolean)", "int rank(int,int)", "int refit(int,int)", "int copy(int)", "int letter(int)",
        "int load()", "int plan(int,int,int,int,int)", "int come(int,int,int)", "int label(int,int)",
        "int put(int,int,int)", "int tag(int,int,int)", "int door(int,boolean)", "int turn(int,int)",
        "int release(int,int)", "int clear(int)", "int carry(int,int)", "int group(int,int,int)",
        "int enter(int,int,int)", "int tally(int,int)", "int step()", "int night(int,int)", "int back(int)",
        "int status()", "int told(int,int)", "int slot(int,int)", "int linkOf(int,int)", "int parcel(int,int)",
        "int way(int,int)", "int byteOf(int,int)", "int left(int)", "int out(int,int)", "int rule(int,int)",
        "int said(int)", "int unused(int)", "int finding(int,int)", "int trace(int)", "int jam(int)",
        "int far(int,int)", "long reach(int)", "int ring(int)", "int audit()", "int count(int)", "long digest()"};
    private static final Set<String> CONSTANTS = Set.of("UNKNOWN", "OUTSIDE", "STATE", "FULL", "UNREAD", "NONE");

    public static void main(String[] args) throws IOException {
        face();
        nestedClasses();
        String source = Files.readString(Path.of("src/main/java/SortWorks.java"), StandardCharsets.ISO_8859_1);
        String code = withoutComments(source);
        words(code);
        methods(code);
        Check.end();
    }

    private static void holds(String what, boolean so) {
        Check.due(what, so ? 1 : 0, 1);
    }

    private static String signature(Method m) {
        StringBuilder s = new StringBuilder(m.getReturnType().getName()).append(' ').append(m.getName()).append('(');
        for (Class<?> type : m.getParameterTypes()) {
            s.append(s.charAt(s.length() - 1) == '(' ? "" : ",").append(type.getName());
        }
        return s.append(')').toString();
    }

    private static void face() {
        Check.about("rule 1");
        Class<?> c = SortWorks.class;
        holds("public and final", c.getModifiers() == (Modifier.PUBLIC | Modifier.FINAL));
        Set<String> open = new TreeSet<>();
        Set<String> openNames = new TreeSet<>();
        Set<String> hidden = new TreeSet<>();
        for (Method m : c.getDeclaredMethods()) {
            if (Modifier.isPrivate(m.getModifiers())) {
                hidden.add(m.getName());
            } else {
                open.add(signature(m));
                openNames.add(m.getName());
                holds("public, not static: " + m, m.getModifiers() == Modifier.PUBLIC);
            }
        }
        holds("the methods of the face: " + open, open.equals(new TreeSet<>(Arrays.asList(FACE))));
        hidden.retainAll(openNames);
        holds("no private method with a public name: " + hidden, hidden.isEmpty());
        for (Field f : c.getDeclaredFields()) {
            boolean isConstant = CONSTANTS.contains(f.getName());
            int open2 = Modifier.PUBLIC | Modifier.STATIC | Modifier.FINAL;
            holds("field " + f, isConstant ? f.getModifiers() == open2 : Modifier.isPrivate(f.getModifiers()));
        }
        Constructor<?>[] made = c.getDeclaredConstructors();
        holds("one public constructor", made.length == 1 && made[0].getModifiers() == Modifier.PUBLIC
                && made[0].getParameterCount() == 0);
    }

    private static void nestedClasses() {
        Class<?>[] inside = SortWorks.class.getDeclaredClasses();
        Check.about("rules 1, 2, 5, 11");
        holds("at most twelve classes", inside.length + 1 <= 12);
        for (Class<?> c : inside) {
            holds("static and not open: " + c, Modifier.isStatic(c.getModifiers()) && !Modifier.isPublic(c.getModifiers())
                    && !Modifier.isProtected(c.getModifiers()));
            for (Method m : c.getDeclaredMethods()) {
                holds("no name of the face: " + m, !String.join(" ", FACE).contains(" " + m.getName() + "("));
                holds("at most seven parameters: " + m, m.getParameterCount() <= 7);
            }
            fields(c);
        }
        fields(SortWorks.class);
    }

    private static void fields(Class<?> c) {
        int own = 0;
        for (Field f : c.getDeclaredFields()) {
            if (Modifier.isStatic(f.getModifiers())) {
                holds("static and final: " + f, Modifier.isFinal(f.getModifiers()));
                holds("a constant: " + f, f.getType() == int.class || f.getType() == int[].class);
            } else {
                own++;
            }
        }
        holds("at most twenty fields: " + c + " has " + own, own <= 20);
    }

    private static String withoutComments(String source) {
        return source.replaceAll("(?s)/\\*.*?\\*/", "").replaceAll("//[^\\n]*", "");
    }

    private static void words(String code) {
        Check.about("rules 2, 4, 6, 10, 13");
        String[] never = {"throw", "throws", "try", "catch", "finally", "synchronized", "assert", "volatile", "native",
            "Exception", "Error", "Thread", "Random", "Object", "Class", "float", "double", "var", "record", "hashCode", "equals",
            "toString", "lambda", "yield", "do", "goto", "System\\.(?!arraycopy)", "Math\\.(?!min|max|floorMod)",
            "Arrays\\.(?!fill|copyOf)", "Integer\\.(?!compare)", "protected"};
        for (String word : never) {
            Matcher m = Pattern.compile("(?<![A-Za-z_])" + word + (word.endsWith(")") ? "" : "(?![A-Za-z_])")).matcher(code);
            holds("no " + word, !m.find());
        }
        for (String sign : new String[] {"->", "::", "Exact(", "while (true", "for (;;", "static {"}) {
            holds("no " + sign, !code.contains(sign));
        }
        Matcher imports = Pattern.compile("import ([^;]*);").matcher(code);
        while (imports.find()) {
            holds("import " + imports.group(1), imports.group(1).equals("java.util.Arrays"));
        }
        holds("no package line", !code.startsWith("package") && !code.contains("\npackage"));
        holds("characters 0 to 127", code.chars().allMatch(c -> c < 128));
    }

    private static void methods(String code) {
        Check.about("rule 11");
        String[] lines = code.split("\n");
        for (int i = 0; i < lines.length; i++) {
            Matcher head = Pattern.compile("^( {4}| {8})(?! |return|if|for|switch)[a-zA-Z].*\\(.*\\) \\{$").matcher(lines[i]);
            if (head.matches()) {
                int end = i;
                while (end < lines.length && !lines[end].equals(head.group(1) + "}")) {
                    end++;
                }
                holds("at most sixty lines: " + lines[i].trim() + " has " + (end - i + 1), end - i + 1 <= 60);
            }
        }
    }
}
