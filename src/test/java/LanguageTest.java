import java.io.IOException;
import java.lang.reflect.Constructor;
import java.lang.reflect.Field;
import java.lang.reflect.Method;
import java.lang.reflect.Modifier;
import java.nio.charset.StandardCharsets;
import java.nio.file.Files;
import java.nio.file.Path;
import java.util.Arrays;
import java.util.Set;
import java.util.TreeSet;
import java.util.regex.Matcher;
import java.util.regex.Pattern;

/** The face of the document, and those rules of LANGUAGE.md that a look at the source or the classes can tell. */
final class LanguageTest {
    /** The methods, the constants with their values, as the document writes them: "int far(int,int)", "NONE = -9". */
    private static final Set<String> FACE = new TreeSet<>(), CONSTANTS = new TreeSet<>();

    public static void main(String[] args) throws IOException, IllegalAccessException {
        readFace();
        promisesAreFace();
        face();
        nestedClasses();
        String source = Files.readString(Path.of("src/main/java/SortWorks.java"), StandardCharsets.ISO_8859_1);
        String code = withoutComments(source);
        words(code);
        methods(code);
        Check.end();
    }

    private static void holds(String what, boolean so) {
        Check.due(what, so ? 1 : 0, 1);
    }

    private static void readFace() {
        Check.about("the document's face");
        String text = Edge.document().get("The public face");
        Matcher constants = Pattern.compile("public static final int ([^;]*);").matcher(text);
        while (constants.find()) {
            CONSTANTS.addAll(Arrays.asList(constants.group(1).split(", ")));
        }
        Matcher methods = Pattern.compile("public (int|long) (\\w+)\\(([^)]*)\\);").matcher(text);
        while (methods.find()) {
            FACE.add(signature(methods.group(1), methods.group(2), methods.group(3)));
        }
        Check.due("constants", CONSTANTS.size(), 6);
        Check.due("methods", FACE.size(), 47);
        holds("the class", text.contains("public final class SortWorks {"));
        holds("the constructor", text.contains("public SortWorks();"));
    }

    /** Parameters lose their names: "int gear, int to" becomes "int,int". */
    private static String signature(String answer, String name, String parameters) {
        return answer + " " + name + "(" + parameters.replaceAll("(\\w+) \\w+", "$1").replace(" ", "") + ")";
    }

    /** The heading of each promise but the first one names a method of the face, and each method has one. */
    private static void promisesAreFace() {
        Set<String> promised = new TreeSet<>();
        for (int k = 2; k <= 48; k++) {
            Check.about("promise " + k);
            Matcher head = Pattern.compile(": (\\w+)\\n\\n`(int|long) (\\w+)\\(([^)]*)\\)`: (?s).*")
                    .matcher(Edge.document().get("Promise " + k));
            boolean isHead = head.matches() && head.group(1).equals(head.group(3));
            holds("its heading names a method", isHead);
            if (isHead) {
                promised.add(signature(head.group(2), head.group(3), head.group(4)));
            }
        }
        Check.about("promises 2 to 48");
        holds("are the methods of the face", promised.equals(FACE));
    }

    private static String signature(Method m) {
        StringBuilder s = new StringBuilder(m.getReturnType().getName()).append(' ').append(m.getName()).append('(');
        for (Class<?> type : m.getParameterTypes()) {
            s.append(s.charAt(s.length() - 1) == '(' ? "" : ",").append(type.getName());
        }
        return s.append(')').toString();
    }

    private static void face() throws IllegalAccessException {
        Check.about("rule 1");
        Class<?> c = SortWorks.class;
        holds("public and final", c.getModifiers() == (Modifier.PUBLIC | Modifier.FINAL));
        Set<String> open = new TreeSet<>();
        Set<String> openNames = new TreeSet<>();
        Set<String> hidden = new TreeSet<>();
        for (Method m : c.getDeclaredMethods()) {
            if (Modifier.isPrivate(m.getModifiers())) {
                hidden.add(m.getName());
            } else {
                open.add(signature(m));
                openNames.add(m.getName());
                holds("public, not static: " + m, m.getModifiers() == Modifier.PUBLIC);
            }
        }
        holds("the methods of the face: " + open, open.equals(FACE));
        hidden.retainAll(openNames);
        holds("no private method with a public name: " + hidden, hidden.isEmpty());
        constants(c);
        Constructor<?>[] made = c.getDeclaredConstructors();
        holds("one public constructor", made.length == 1 && made[0].getModifiers() == Modifier.PUBLIC
                && made[0].getParameterCount() == 0);
    }

    private static void constants(Class<?> c) throws IllegalAccessException {
        Set<String> open = new TreeSet<>();
        for (Field f : c.getDeclaredFields()) {
            if (!Modifier.isPrivate(f.getModifiers())) {
                holds("a constant: " + f, f.getModifiers() == (Modifier.PUBLIC | Modifier.STATIC | Modifier.FINAL));
                holds("an int: " + f, f.getType() == int.class);
                open.add(f.getName() + " = " + f.get(null));
            }
        }
        holds("the constants of the face, with their values: " + open, open.equals(CONSTANTS));
    }

    private static void nestedClasses() {
        Class<?>[] inside = SortWorks.class.getDeclaredClasses();
        Check.about("rules 1, 2, 5, 11");
        holds("at most twelve classes", inside.length + 1 <= 12);
        for (Class<?> c : inside) {
            holds("static and not open: " + c, Modifier.isStatic(c.getModifiers()) && !Modifier.isPublic(c.getModifiers())
                    && !Modifier.isProtected(c.getModifiers()));
            for (Method m : c.getDeclaredMethods()) {
                holds("no name of the face: " + m, !String.join(" ", FACE).contains(" " + m.getName() + "("));
                holds("at most seven parameters: " + m, m.getParameterCount() <= 7);
            }
            fields(c);
        }
        fields(SortWorks.class);
    }

    private static void fields(Class<?> c) {
        int own = 0;
        for (Field f : c.getDeclaredFields()) {
            if (Modifier.isStatic(f.getModifiers())) {
                holds("static and final: " + f, Modifier.isFinal(f.getModifiers()));
                holds("a constant: " + f, f.getType() == int.class || f.getType() == int[].class);
            } else {
                own++;
            }
        }
        holds("at most twenty fields: " + c + " has " + own, own <= 20);
    }

    private static String withoutComments(String source) {
        return source.replaceAll("(?s)/\\*.*?\\*/", "").replaceAll("//[^\\n]*", "");
    }

    private static void words(String code) {
        Check.about("rules 2, 4, 6, 10, 13");
        String[] never = {"throw", "throws", "try", "catch", "finally", "synchronized", "assert", "volatile", "native",
            "Exception", "Error", "Thread", "Random", "Object", "Class", "float", "double", "var", "record", "hashCode",
            "equals", "toString", "lambda", "yield", "do", "goto", "System\\.(?!arraycopy)", "Math\\.(?!min|max|floorMod)",
            "Arrays\\.(?!fill|copyOf)", "Integer\\.(?!compare)", "protected"};
        for (String word : never) {
            Matcher m = Pattern.compile("(?<![A-Za-z_])" + word + (word.endsWith(")") ? "" : "(?![A-Za-z_])")).matcher(code);
            holds("no " + word, !m.find());
        }
        for (String sign : new String[] {"->", "::", "Exact(", "while (true", "for (;;", "static {"}) {
            holds("no " + sign, !code.contains(sign));
        }
        Matcher imports = Pattern.compile("import ([^;]*);").matcher(code);
        while (imports.find()) {
            holds("import " + imports.group(1), imports.group(1).equals("java.util.Arrays"));
        }
        holds("no package line", !code.startsWith("package") && !code.contains("\npackage"));
        holds("characters 0 to 127", code.chars().allMatch(c -> c < 128));
    }

    private static void methods(String code) {
        Check.about("rule 11");
        String[] lines = code.split("\n");
        for (int i = 0; i < lines.length; i++) {
            Matcher head = Pattern.compile("^( {4}| {8})(?! |return|if|for|switch)[a-zA-Z].*\\(.*\\) \\{$").matcher(lines[i]);
            if (head.matches()) {
                int end = i;
                while (end < lines.length && !lines[end].equals(head.group(1) + "}")) {
                    end++;
                }
                holds("at most sixty lines: " + lines[i].trim() + " has " + (end - i + 1), end - i + 1 <= 60);
            }
        }
    }
}
