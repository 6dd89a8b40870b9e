import com.sun.source.tree.ClassTree;
import com.sun.source.tree.CompilationUnitTree;
import com.sun.source.tree.MethodInvocationTree;
import com.sun.source.tree.MethodTree;
import com.sun.source.tree.NewArrayTree;
import com.sun.source.tree.NewClassTree;
import com.sun.source.util.JavacTask;
import com.sun.source.util.TreePathScanner;
import com.sun.source.util.Trees;
import java.io.File;
import java.io.IOException;
import java.util.LinkedHashMap;
import java.util.LinkedHashSet;
import java.util.List;
import java.util.Map;
import java.util.Set;
import javax.lang.model.element.Element;
import javax.lang.model.element.Modifier;
import javax.tools.JavaCompiler;
import javax.tools.StandardJavaFileManager;
import javax.tools.ToolProvider;

/** What the compiler's own trees tell of the program: how deep its calls go, and where it makes objects. */
final class ShapeTest {
    private static final int DEPTH_MOST = 8;
    /** Far above any way of calls: a way that long goes in a ring. */
    private static final int RING = 100;

    private final Trees trees;
    private final Map<Element, Set<Element>> calls = new LinkedHashMap<>();

    private ShapeTest(Trees trees) {
        this.trees = trees;
    }

    public static void main(String[] args) throws IOException {
        JavaCompiler compiler = ToolProvider.getSystemJavaCompiler();
        try (StandardJavaFileManager files = compiler.getStandardFileManager(null, null, null)) {
            JavacTask task = (JavacTask) compiler.getTask(null, files, null, List.of("-proc:none"), null,
                    files.getJavaFileObjects(new File("src/main/java/SortWorks.java")));
            ShapeTest test = new ShapeTest(Trees.instance(task));
            Iterable<? extends CompilationUnitTree> units = task.parse();
            task.analyze();
            for (CompilationUnitTree unit : units) {
                test.read(unit);
            }
            test.depths();
        }
        Check.end();
    }

    private void read(CompilationUnitTree unit) {
        new TreePathScanner<Void, Element>() {
            @Override
            public Void visitMethod(MethodTree node, Element within) {
                Element method = trees.getElement(getCurrentPath());
                calls.put(method, new LinkedHashSet<>());
                return super.visitMethod(node, method);
            }

            @Override
            public Void visitClass(ClassTree node, Element within) {
                return super.visitClass(node, null);
            }

            @Override
            public Void visitMethodInvocation(MethodInvocationTree node, Element within) {
                if (within != null) {
                    calls.get(within).add(trees.getElement(getCurrentPath()));
                }
                return super.visitMethodInvocation(node, within);
            }

            @Override
            public Void visitNewClass(NewClassTree node, Element within) {
                made(node.toString(), within);
                return super.visitNewClass(node, within);
            }

            @Override
            public Void visitNewArray(NewArrayTree node, Element within) {
                made(node.toString(), within);
                return super.visitNewArray(node, within);
            }
        }.scan(unit, null);
    }

    private static void made(String what, Element within) {
        Check.about("rule 12");
        boolean isWithNewObject = within == null || within.getSimpleName().contentEquals("<init>");
        Check.due(what + " in " + within + ": only constructors and fields make objects", isWithNewObject ? 1 : 0, 1);
    }

    private void depths() {
        Check.about("rules 8, 11");
        int deepest = 0;
        for (Element method : calls.keySet()) {
            if (method.getModifiers().contains(Modifier.PUBLIC)) {
                int depth = depthOf(method, 0);
                deepest = Math.max(deepest, depth);
                Check.due(method + " goes " + depth + " deep, which is not too deep", depth <= DEPTH_MOST ? 1 : 0, 1);
            }
        }
        System.out.println("calls go " + deepest + " deep");
    }

    /** How many calls stand open at most, this one and those of the library among them. */
    private int depthOf(Element method, int above) {
        if (above >= RING) {
            return RING;
        }
        int below = 0;
        for (Element called : calls.getOrDefault(method, Set.of())) {
            below = Math.max(below, depthOf(called, above + 1));
        }
        return below + 1;
    }
}
