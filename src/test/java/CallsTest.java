import com.sun.source.tree.CompilationUnitTree;
import com.sun.source.tree.MethodInvocationTree;
import com.sun.source.tree.MethodTree;
import com.sun.source.tree.NewClassTree;
import com.sun.source.util.JavacTask;
import com.sun.source.util.TreePathScanner;
import com.sun.source.util.Trees;
import java.io.IOException;
import java.nio.file.Path;
import java.util.ArrayList;
import java.util.LinkedHashMap;
import java.util.LinkedHashSet;
import java.util.List;
import java.util.Map;
import java.util.Set;
import java.util.TreeSet;
import javax.lang.model.element.Element;
import javax.lang.model.element.ElementKind;
import javax.lang.model.element.Modifier;
import javax.tools.JavaCompiler;
import javax.tools.StandardJavaFileManager;
import javax.tools.ToolProvider;

/**
 * The rules of ../shared/LANGUAGE.md on calls (8, 11, 12): which methods call themselves again, how deep
 * they go, and that objects are made by constructors alone.
 */
final class CallsTest extends TreePathScanner<Void, Element> {
    private static final Path PROGRAM = Path.of("src/main/java/RunColumns.java");
    /** The one recursion: levels of a query, which carry how many stand around them. */
    private static final Set<String> AGAIN = Set.of("readEither", "readBoth", "readFactor");
    private static final int DEEPEST = 8;

    private final Trees trees;
    private final Due due;
    private final Map<Element, Set<Element>> calls = new LinkedHashMap<>();

    private CallsTest(Trees trees, Due due) {
        this.trees = trees;
        this.due = due;
    }

    public static void main(String[] args) throws IOException {
        Due due = new Due("CallsTest");
        JavaCompiler compiler = ToolProvider.getSystemJavaCompiler();
        try (StandardJavaFileManager files = compiler.getStandardFileManager(null, null, null)) {
            JavacTask task = (JavacTask) compiler.getTask(null, files, null, List.of("-proc:none"), null, files.getJavaFileObjects(PROGRAM));
            Iterable<? extends CompilationUnitTree> units = task.parse();
            task.analyze();
            CallsTest test = new CallsTest(Trees.instance(task), due);
            for (CompilationUnitTree unit : units) {
                test.scan(unit, null);
            }
            test.look();
        }
        due.end();
    }

    @Override
    public Void visitMethod(MethodTree tree, Element outer) {
        Element method = trees.getElement(getCurrentPath());
        calls.putIfAbsent(method, new LinkedHashSet<>());
        return super.visitMethod(tree, method);
    }

    @Override
    public Void visitMethodInvocation(MethodInvocationTree tree, Element method) {
        if (method != null) {
            calls.get(method).add(trees.getElement(getCurrentPath()));
        }
        return super.visitMethodInvocation(tree, method);
    }

    @Override
    public Void visitNewClass(NewClassTree tree, Element method) {
        due.due(tree + " is made by a constructor or a field", method == null || method.getKind() == ElementKind.CONSTRUCTOR);
        return super.visitNewClass(tree, method);
    }

    private void look() {
        due.due("the program's methods are found", calls.size() > 30);
        Set<String> again = new TreeSet<>();
        for (Element method : calls.keySet()) {
            if (reaches(method, method, new LinkedHashSet<>())) {
                again.add(method.getSimpleName().toString());
            }
        }
        due.due("methods that call themselves again: " + again, AGAIN.equals(again));
        for (Element method : calls.keySet()) {
            if (method.getModifiers().contains(Modifier.PUBLIC)) {
                List<Element> chain = longest(method, new ArrayList<>());
                due.due(chain + " goes " + DEEPEST + " deep at most", chain.size() <= DEEPEST);
            }
        }
    }

    private boolean reaches(Element from, Element to, Set<Element> seen) {
        for (Element next : calls.getOrDefault(from, Set.of())) {
            if (next.equals(to) || seen.add(next) && reaches(next, to, seen)) {
                return true;
            }
        }
        return false;
    }

    /** The longest chain of the program's own calls from method on, each method in it once. */
    private List<Element> longest(Element method, List<Element> open) {
        List<Element> best = open;
        if (calls.containsKey(method) && !open.contains(method)) {
            List<Element> here = new ArrayList<>(open);
            here.add(method);
            best = here;
            for (Element next : calls.get(method)) {
                List<Element> further = longest(next, here);
                if (further.size() > best.size()) {
                    best = further;
                }
            }
        }
        return best;
    }
}
