import com.sun.source.tree.AssignmentTree;
import com.sun.source.tree.BinaryTree;
import com.sun.source.tree.BlockTree;
import com.sun.source.tree.ClassTree;
import com.sun.source.tree.CompilationUnitTree;
import com.sun.source.tree.CompoundAssignmentTree;
import com.sun.source.tree.ExpressionTree;
import com.sun.source.tree.ForLoopTree;
import com.sun.source.tree.ImportTree;
import com.sun.source.tree.LineMap;
import com.sun.source.tree.MethodInvocationTree;
import com.sun.source.tree.MethodTree;
import com.sun.source.tree.NewArrayTree;
import com.sun.source.tree.NewClassTree;
import com.sun.source.tree.ThrowTree;
import com.sun.source.tree.Tree;
import com.sun.source.tree.UnaryTree;
import com.sun.source.tree.VariableTree;
import com.sun.source.util.JavacTask;
import com.sun.source.util.TreePath;
import com.sun.source.util.TreePathScanner;
import com.sun.source.util.TreeScanner;
import com.sun.source.util.Trees;
import java.io.IOException;
import java.nio.file.Path;
import java.util.ArrayList;
import java.util.LinkedHashMap;
import java.util.LinkedHashSet;
import java.util.List;
import java.util.Map;
import java.util.Set;
import javax.lang.model.element.Element;
import javax.lang.model.type.TypeMirror;
import javax.tools.JavaCompiler;
import javax.tools.StandardJavaFileManager;
import javax.tools.ToolProvider;

/** What the compiler sees in src/main/java/PackedWords.java, gathered for LanguageTest. */
final class Source extends TreePathScanner<Void, Void> {
    private final CompilationUnitTree unit;
    private final Trees trees;

    final List<String> imports = new ArrayList<>();
    final List<TreePath> classes = new ArrayList<>();
    final List<TreePath> methods = new ArrayList<>();
    final List<TreePath> variables = new ArrayList<>();
    final List<TreePath> forLoops = new ArrayList<>();
    final List<TreePath> throwStatements = new ArrayList<>();
    final List<TreePath> news = new ArrayList<>();
    final List<TreePath> binaries = new ArrayList<>();
    final List<TreePath> staticBlocks = new ArrayList<>();
    final List<TreePath> compoundAssignments = new ArrayList<>();
    /** Calls of what does not stand in the file, such as java.lang.Math.min. */
    final List<String> libraryCalls = new ArrayList<>();
    /** Each method of the file, with those of the file that it calls. */
    final Map<Element, Set<Element>> calls = new LinkedHashMap<>();
    /** All kinds of trees, with a line where each stands. */
    final Map<Tree.Kind, Long> kinds = new LinkedHashMap<>();

    Source(Path file) {
        JavaCompiler compiler = ToolProvider.getSystemJavaCompiler();
        try (StandardJavaFileManager files = compiler.getStandardFileManager(null, null, null)) {
            JavacTask task = (JavacTask) compiler.getTask(null, files, null, List.of("-proc:none"), null,
                    files.getJavaFileObjects(file));
            unit = task.parse().iterator().next();
            task.analyze();
            trees = Trees.instance(task);
            scan(unit, null);
        } catch (IOException e) {
            throw new IllegalStateException(e);
        }
    }

    // ---- what the tests ask

    long line(Tree tree) {
        LineMap lines = unit.getLineMap();
        return lines.getLineNumber(trees.getSourcePositions().getStartPosition(unit, tree));
    }

    long lines(Tree tree) {
        LineMap lines = unit.getLineMap();
        return lines.getLineNumber(trees.getSourcePositions().getEndPosition(unit, tree)) - line(tree) + 1;
    }

    Element element(TreePath path) {
        return trees.getElement(path);
    }

    TypeMirror type(TreePath path) {
        return trees.getTypeMirror(path);
    }

    TypeMirror type(TreePath parent, Tree child) {
        return trees.getTypeMirror(new TreePath(parent, child));
    }

    /** The method or class that the path stands in. */
    static Tree around(TreePath path) {
        TreePath at = path.getParentPath();
        while (!(at.getLeaf() instanceof MethodTree) && !(at.getLeaf() instanceof ClassTree)) {
            at = at.getParentPath();
        }
        return at.getLeaf();
    }

    // ---- gathering

    @Override
    public Void scan(Tree tree, Void nothing) {
        if (tree != null) {
            kinds.putIfAbsent(tree.getKind(), line(tree));
        }
        return super.scan(tree, nothing);
    }

    @Override
    public Void visitImport(ImportTree tree, Void nothing) {
        imports.add((tree.isStatic() ? "static " : "") + tree.getQualifiedIdentifier());
        return super.visitImport(tree, nothing);
    }

    @Override
    public Void visitClass(ClassTree tree, Void nothing) {
        classes.add(getCurrentPath());
        return super.visitClass(tree, nothing);
    }

    @Override
    public Void visitMethod(MethodTree tree, Void nothing) {
        methods.add(getCurrentPath());
        calls.computeIfAbsent(trees.getElement(getCurrentPath()), method -> new LinkedHashSet<>());
        return super.visitMethod(tree, nothing);
    }

    @Override
    public Void visitVariable(VariableTree tree, Void nothing) {
        variables.add(getCurrentPath());
        return super.visitVariable(tree, nothing);
    }

    @Override
    public Void visitForLoop(ForLoopTree tree, Void nothing) {
        forLoops.add(getCurrentPath());
        return super.visitForLoop(tree, nothing);
    }

    @Override
    public Void visitThrow(ThrowTree tree, Void nothing) {
        throwStatements.add(getCurrentPath());
        return super.visitThrow(tree, nothing);
    }

    @Override
    public Void visitNewClass(NewClassTree tree, Void nothing) {
        news.add(getCurrentPath());
        noteCall(trees.getElement(getCurrentPath()));
        return super.visitNewClass(tree, nothing);
    }

    @Override
    public Void visitNewArray(NewArrayTree tree, Void nothing) {
        news.add(getCurrentPath());
        return super.visitNewArray(tree, nothing);
    }

    @Override
    public Void visitBinary(BinaryTree tree, Void nothing) {
        binaries.add(getCurrentPath());
        return super.visitBinary(tree, nothing);
    }

    @Override
    public Void visitCompoundAssignment(CompoundAssignmentTree tree, Void nothing) {
        compoundAssignments.add(getCurrentPath());
        return super.visitCompoundAssignment(tree, nothing);
    }

    @Override
    public Void visitBlock(BlockTree tree, Void nothing) {
        if (getCurrentPath().getParentPath().getLeaf() instanceof ClassTree) {
            staticBlocks.add(getCurrentPath());
        }
        return super.visitBlock(tree, nothing);
    }

    @Override
    public Void visitMethodInvocation(MethodInvocationTree tree, Void nothing) {
        Element method = trees.getElement(getCurrentPath());
        if (trees.getPath(method) != null) {
            noteCall(method);
        } else if (!method.getSimpleName().contentEquals("<init>")) {
            libraryCalls.add(method.getEnclosingElement() + "." + method.getSimpleName());
        }
        return super.visitMethodInvocation(tree, nothing);
    }

    private void noteCall(Element method) {
        if (method != null && trees.getPath(method) != null && around(getCurrentPath()) instanceof MethodTree) {
            TreePath from = getCurrentPath();
            while (!(from.getLeaf() instanceof MethodTree)) {
                from = from.getParentPath();
            }
            calls.computeIfAbsent(trees.getElement(from), caller -> new LinkedHashSet<>()).add(method);
        }
    }

    /** Tells whether the loop's body gives its counter a value. */
    static boolean assigns(Tree body, String counter) {
        boolean[] found = {false};
        new TreeScanner<Void, Void>() {
            @Override
            public Void visitAssignment(AssignmentTree tree, Void nothing) {
                found[0] = found[0] || tree.getVariable().toString().equals(counter);
                return super.visitAssignment(tree, nothing);
            }

            @Override
            public Void visitCompoundAssignment(CompoundAssignmentTree tree, Void nothing) {
                found[0] = found[0] || tree.getVariable().toString().equals(counter);
                return super.visitCompoundAssignment(tree, nothing);
            }

            @Override
            public Void visitUnary(UnaryTree tree, Void nothing) {
                boolean steps = tree.getKind().name().contains("CREMENT");
                found[0] = found[0] || steps && tree.getExpression().toString().equals(counter);
                return super.visitUnary(tree, nothing);
            }
        }.scan(body, null);
        return found[0];
    }

    /** The parts of a condition that are joined by and. */
    static List<ExpressionTree> parts(ExpressionTree condition) {
        List<ExpressionTree> parts = new ArrayList<>();
        if (condition instanceof BinaryTree && condition.getKind() == Tree.Kind.CONDITIONAL_AND) {
            parts.addAll(parts(((BinaryTree) condition).getLeftOperand()));
            parts.addAll(parts(((BinaryTree) condition).getRightOperand()));
        } else {
            parts.add(condition);
        }
        return parts;
    }
}
