import com.sun.source.tree.AssertTree;
import com.sun.source.tree.BinaryTree;
import com.sun.source.tree.ClassTree;
import com.sun.source.tree.CompilationUnitTree;
import com.sun.source.tree.ImportTree;
import com.sun.source.tree.LambdaExpressionTree;
import com.sun.source.tree.LiteralTree;
import com.sun.source.tree.MemberReferenceTree;
import com.sun.source.tree.MemberSelectTree;
import com.sun.source.tree.MethodTree;
import com.sun.source.tree.NewClassTree;
import com.sun.source.tree.SynchronizedTree;
import com.sun.source.tree.ThrowTree;
import com.sun.source.tree.Tree;
import com.sun.source.tree.TryTree;
import com.sun.source.tree.VariableTree;
import com.sun.source.util.JavacTask;
import com.sun.source.util.SourcePositions;
import com.sun.source.util.TreeScanner;
import com.sun.source.util.Trees;
import java.io.IOException;
import java.nio.file.Files;
import java.nio.file.Path;
import java.util.List;
import java.util.Set;
import javax.lang.model.element.Modifier;
import javax.tools.JavaCompiler;
import javax.tools.StandardJavaFileManager;
import javax.tools.ToolProvider;

/** The rules of ../shared/LANGUAGE.md that can be seen from the program's text. */
final class LanguageTest extends TreeScanner<Void, Void> {
    private static final Path PROGRAM = Path.of("src/main/java/RunColumns.java");
    private static final Set<String> IMPORTS = Set.of("java.util.Arrays", "java.util.ArrayList", "java.util.List");
    private static final Set<String> LIBRARY = Set.of(
        "Long.MIN_VALUE", "Long.bitCount", "Math.max", "Math.min", "Arrays.fill", "System.arraycopy");
    private static final Set<String> LIBRARY_CLASSES = Set.of("Long", "Integer", "Math", "Arrays", "System", "List", "Character", "String");

    private final Due due;
    private final CompilationUnitTree unit;
    private final SourcePositions positions;
    private int classes = 0;

    private LanguageTest(Due due, CompilationUnitTree unit, SourcePositions positions) {
        this.due = due;
        this.unit = unit;
        this.positions = positions;
    }

    public static void main(String[] args) throws IOException {
        Due due = new Due("LanguageTest");
        String text = Files.readString(PROGRAM);
        due.due("signs 1 to 127 alone", text.chars().allMatch(c -> c >= 1 && c <= 127));
        JavaCompiler compiler = ToolProvider.getSystemJavaCompiler();
        try (StandardJavaFileManager files = compiler.getStandardFileManager(null, null, null)) {
            JavacTask task = (JavacTask) compiler.getTask(null, files, null, null, null, files.getJavaFileObjects(PROGRAM));
            for (CompilationUnitTree unit : task.parse()) {
                LanguageTest test = new LanguageTest(due, unit, Trees.instance(task).getSourcePositions());
                test.scan(unit, null);
                due.due("no package line", unit.getPackageName() == null);
                due.due("one class on top", unit.getTypeDecls().size(), 1);
                due.due("some twelve classes: " + test.classes, test.classes <= 12);
            }
        }
        due.end();
    }

    private void none(String what, Tree tree) {
        due.due("line " + line(positions.getStartPosition(unit, tree)) + ": " + what, false);
    }

    private long line(long position) {
        return unit.getLineMap().getLineNumber(position);
    }

    @Override
    public Void visitImport(ImportTree tree, Void p) {
        due.due("import " + tree.getQualifiedIdentifier(), IMPORTS.contains(tree.getQualifiedIdentifier().toString()));
        return null;
    }

    @Override
    public Void visitClass(ClassTree tree, Void p) {
        classes++;
        Set<Modifier> how = tree.getModifiers().getFlags();
        if (classes > 1) {
            due.due(tree.getSimpleName() + " is static and hidden",
                    how.contains(Modifier.STATIC) && !how.contains(Modifier.PUBLIC) && !how.contains(Modifier.PROTECTED));
        }
        int fields = 0;
        for (Tree member : tree.getMembers()) {
            if (member.getKind() == Tree.Kind.BLOCK) {
                none("an initialiser block", member);
            }
            if (member instanceof VariableTree) {
                Set<Modifier> flags = ((VariableTree) member).getModifiers().getFlags();
                fields += flags.contains(Modifier.STATIC) ? 0 : 1;
                if (flags.contains(Modifier.STATIC) && !flags.contains(Modifier.FINAL)) {
                    none("a static field that is not final", member);
                }
            }
        }
        due.due(tree.getSimpleName() + " has some twenty fields: " + fields, fields <= 20);
        return super.visitClass(tree, p);
    }

    @Override
    public Void visitMethod(MethodTree tree, Void p) {
        long from = line(positions.getStartPosition(unit, tree));
        long to = line(positions.getEndPosition(unit, tree));
        due.due(tree.getName() + " is short", to - from < 60);
        due.due(tree.getName() + " has seven parameters at most", tree.getParameters().size() <= 7);
        due.due(tree.getName() + " is none of Object's", !List.of("equals", "hashCode", "toString").contains(tree.getName().toString()));
        due.due(tree.getName() + " throws nothing", tree.getThrows().isEmpty());
        return super.visitMethod(tree, p);
    }

    @Override
    public Void visitMemberSelect(MemberSelectTree tree, Void p) {
        if (LIBRARY_CLASSES.contains(tree.getExpression().toString())) {
            due.due(tree + " is of the library told", LIBRARY.contains(tree.toString()));
        }
        return super.visitMemberSelect(tree, p);
    }

    @Override
    public Void visitBinary(BinaryTree tree, Void p) {
        if (tree.getKind() == Tree.Kind.PLUS && (isText(tree.getLeftOperand()) || isText(tree.getRightOperand()))) {
            none("a text joined by +", tree);
        }
        return super.visitBinary(tree, p);
    }

    private static boolean isText(Tree tree) {
        return tree instanceof LiteralTree && ((LiteralTree) tree).getValue() instanceof String;
    }

    @Override
    public Void visitNewClass(NewClassTree tree, Void p) {
        if (tree.getClassBody() != null) {
            none("an anonymous class", tree);
        }
        return super.visitNewClass(tree, p);
    }

    @Override
    public Void visitThrow(ThrowTree tree, Void p) {
        none("throw", tree);
        return super.visitThrow(tree, p);
    }

    @Override
    public Void visitTry(TryTree tree, Void p) {
        none("try", tree);
        return super.visitTry(tree, p);
    }

    @Override
    public Void visitSynchronized(SynchronizedTree tree, Void p) {
        none("synchronized", tree);
        return super.visitSynchronized(tree, p);
    }

    @Override
    public Void visitAssert(AssertTree tree, Void p) {
        none("assert", tree);
        return super.visitAssert(tree, p);
    }

    @Override
    public Void visitLambdaExpression(LambdaExpressionTree tree, Void p) {
        none("a lambda", tree);
        return super.visitLambdaExpression(tree, p);
    }

    @Override
    public Void visitMemberReference(MemberReferenceTree tree, Void p) {
        none("a method reference", tree);
        return super.visitMemberReference(tree, p);
    }
}
