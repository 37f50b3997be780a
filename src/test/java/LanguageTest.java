import com.sun.source.tree.BinaryTree;
import com.sun.source.tree.ClassTree;
import com.sun.source.tree.CompoundAssignmentTree;
import com.sun.source.tree.ExpressionTree;
import com.sun.source.tree.ForLoopTree;
import com.sun.source.tree.MethodTree;
import com.sun.source.tree.NewClassTree;
import com.sun.source.tree.ThrowTree;
import com.sun.source.tree.Tree;
import com.sun.source.tree.VariableTree;
import com.sun.source.util.TreePath;
import java.io.IOException;
import java.nio.file.Files;
import java.nio.file.Path;
import java.util.ArrayDeque;
import java.util.Deque;
import java.util.List;
import java.util.Set;
import javax.lang.model.element.Element;
import javax.lang.model.element.Modifier;
import javax.lang.model.type.ArrayType;
import javax.lang.model.type.TypeKind;
import javax.lang.model.type.TypeMirror;

/**
 * The rules of LANGUAGE.md, as far as the text of the class tells them; it is stricter where the class needs less than
 * they leave: no try, no while, no recursion, no lists, no text.
 */
public final class LanguageTest {
    private static final Path FILE = Path.of("src/main/java/PackedWords.java");
    private static final Source SOURCE = new Source(FILE);

    private static final Set<String> LIBRARY = Set.of("java.lang.Math.min", "java.lang.Math.max", "java.lang.Math.abs",
            "java.lang.Integer.bitCount", "java.lang.System.arraycopy", "java.util.Arrays.fill", "java.util.Arrays.copyOf",
            "java.util.Arrays.copyOfRange");
    private static final Set<String> EXCEPTIONS = Set.of("IllegalStateException", "IllegalArgumentException",
            "IndexOutOfBoundsException");

    public static void main(String[] args) {
        Check.run(LanguageTest.class);
    }

    private static String at(TreePath path) {
        return "line " + SOURCE.line(path.getLeaf()) + ", " + path.getLeaf().getKind();
    }

    private static void dueWithout(Tree.Kind... kinds) {
        for (Tree.Kind kind : kinds) {
            Check.dueTrue("no " + kind + (SOURCE.kinds.containsKey(kind) ? " as in line " + SOURCE.kinds.get(kind) : ""),
                    !SOURCE.kinds.containsKey(kind));
        }
    }

    // ---- 1 and 2

    @Says(rule = 1, value = "but for the classes inside it, which are private or package-visible and static.")
    static void rule01ClassesInsideAreStaticAndNotPublic() {
        for (TreePath path : SOURCE.classes) {
            Set<Modifier> modifiers = ((ClassTree) path.getLeaf()).getModifiers().getFlags();
            if (path.getParentPath().getLeaf() instanceof ClassTree) {
                Check.dueTrue(at(path) + " is static", modifiers.contains(Modifier.STATIC));
                Check.dueTrue(at(path) + " is not public", !modifiers.contains(Modifier.PUBLIC)
                        && !modifiers.contains(Modifier.PROTECTED));
            } else {
                Check.dueText("the class in the file", ((ClassTree) path.getLeaf()).getSimpleName().toString(),
                        "PackedWords");
            }
        }
    }

    @Says(rule = 2, value = "no local class that captures a variable, no lambda, no method reference.")
    static void rule02NoLocalClassNoLambdaNoMethodReference() {
        dueWithout(Tree.Kind.LAMBDA_EXPRESSION, Tree.Kind.MEMBER_REFERENCE, Tree.Kind.RECORD, Tree.Kind.ENUM,
                Tree.Kind.INTERFACE, Tree.Kind.ANNOTATION);
        for (TreePath path : SOURCE.classes) {
            Tree parent = path.getParentPath().getLeaf();
            Check.dueTrue(at(path) + " stands in a class or in the file", parent instanceof ClassTree
                    || parent.getKind() == Tree.Kind.COMPILATION_UNIT);
        }
    }

    // ---- 3 to 5

    private static boolean isNumber(TypeMirror type) {
        return type.getKind().isPrimitive();
    }

    private static boolean isOwn(TypeMirror type) {
        return type.getKind() == TypeKind.DECLARED && type.toString().startsWith("PackedWords");
    }

    private static boolean isAllowed(TypeMirror type) {
        if (type.getKind() == TypeKind.ARRAY) {
            TypeMirror part = ((ArrayType) type).getComponentType();
            return isNumber(part) || isOwn(part)
                    || part.getKind() == TypeKind.ARRAY && isNumber(((ArrayType) part).getComponentType());
        }
        return isNumber(type) || isOwn(type) || type.getKind() == TypeKind.VOID;
    }

    @Says(rule = 3, value = "Types: int, long, short, byte, char, boolean, double, float; arrays of these and of your own "
            + "classes, of one dimension, and arrays of two dimensions of numbers; your own classes;")
    static void rule03TypesOfVariablesAndAnswers() {
        for (TreePath path : SOURCE.variables) {
            Check.dueTrue(at(path) + " has a type that is allowed", isAllowed(SOURCE.type(path)));
        }
        for (TreePath path : SOURCE.methods) {
            Tree answer = ((MethodTree) path.getLeaf()).getReturnType();
            Check.dueTrue(at(path) + " has a type that is allowed", answer == null
                    || isAllowed(SOURCE.type(path, answer)));
        }
    }

    @Says(rule = 4, value = "The library: only what stands here.")
    static void rule04LibraryCalls() {
        Check.dueTrue("some calls are seen", SOURCE.libraryCalls.size() > 3);
        for (String call : SOURCE.libraryCalls) {
            Check.dueTrue(call + " is allowed", LIBRARY.contains(call));
        }
        for (TreePath path : SOURCE.news) {
            Check.dueTrue(at(path) + " makes numbers, own classes or what is thrown", isAllowed(SOURCE.type(path))
                    || path.getParentPath().getLeaf() instanceof ThrowTree);
        }
        Check.due("imports: " + SOURCE.imports, SOURCE.imports.size(), 1);
        Check.dueText("the import", SOURCE.imports.get(0), "java.util.Arrays");
    }

    @Says(rule = 4, value = "whose signs are 1 to 127")
    static void rule04SignsAre1To127() throws IOException {
        int beyond = 0;
        for (char sign : Files.readString(FILE).toCharArray()) {
            beyond += sign > 127 || sign == 0 ? 1 : 0;
        }
        Check.due("signs beyond 127", beyond, 0);
    }

    @Says(rule = 5, value = "Static fields are final: constants of int, long, boolean, char or String")
    static void rule05StaticFieldsAreFinalConstants() {
        for (TreePath path : SOURCE.variables) {
            VariableTree variable = (VariableTree) path.getLeaf();
            if (variable.getModifiers().getFlags().contains(Modifier.STATIC)) {
                Check.dueTrue(at(path) + " is final", variable.getModifiers().getFlags().contains(Modifier.FINAL));
                Check.dueTrue(at(path) + " is an int", SOURCE.type(path).getKind() == TypeKind.INT);
            }
        }
    }

    @Says(rule = 5, value = "No other static state, no static initialiser block.")
    static void rule05NoInitialiserBlocks() {
        Check.due("blocks", SOURCE.staticBlocks.size(), 0);
    }

    // ---- 6 to 8

    @Says(rule = 6, value = "Exceptions: throw new E() or throw new E(\"a written text\")")
    static void rule06ThrowsAreNewWithAWrittenText() {
        Check.dueTrue("some throws are seen", SOURCE.throwStatements.size() > 10);
        for (TreePath path : SOURCE.throwStatements) {
            ExpressionTree thrown = ((ThrowTree) path.getLeaf()).getExpression();
            Check.dueTrue(at(path) + " throws a new one", thrown instanceof NewClassTree);
            NewClassTree made = (NewClassTree) thrown;
            Check.dueTrue(at(path) + " throws what the document names", EXCEPTIONS.contains(
                    made.getIdentifier().toString()));
            for (ExpressionTree argument : made.getArguments()) {
                Check.dueTrue(at(path) + " has a written text", argument.getKind() == Tree.Kind.STRING_LITERAL);
            }
        }
    }

    @Says(rule = 6, value = "no throw in a constructor.")
    static void rule06ThrowsStandInMethodsOfTheFace() {
        for (TreePath path : SOURCE.throwStatements) {
            MethodTree method = (MethodTree) Source.around(path);
            Check.dueTrue(at(path) + " stands in a method of the face", method.getReturnType() != null
                    && method.getModifiers().getFlags().contains(Modifier.PUBLIC));
        }
    }

    @Says(rule = 6, value = "No finally, no try with resources, no exception classes of your own")
    static void rule06NothingIsCaught() {
        dueWithout(Tree.Kind.TRY, Tree.Kind.CATCH, Tree.Kind.SYNCHRONIZED, Tree.Kind.ASSERT, Tree.Kind.INSTANCE_OF);
        for (TreePath path : SOURCE.classes) {
            Check.dueTrue(at(path) + " has no class above it", ((ClassTree) path.getLeaf()).getExtendsClause() == null);
        }
    }

    @Says(rule = 6, value = "== and != between your own objects, enums and null are fine, never between two Strings or two "
            + "Integers.")
    static void rule06EqualsSignsStandBetweenNumbersOrBesideNull() {
        for (TreePath path : SOURCE.binaries) {
            BinaryTree binary = (BinaryTree) path.getLeaf();
            if (binary.getKind() == Tree.Kind.EQUAL_TO || binary.getKind() == Tree.Kind.NOT_EQUAL_TO) {
                TypeMirror left = SOURCE.type(path, binary.getLeftOperand());
                TypeMirror right = SOURCE.type(path, binary.getRightOperand());
                Check.dueTrue(at(path) + " compares numbers or with null", isNumber(left) && isNumber(right)
                        || right.getKind() == TypeKind.NULL);
            }
        }
    }

    @Says(rule = 7, value = "an index is looked at before it is used, a divisor before it divides")
    static void rule07NothingIsDividedButTheFullness() {
        dueWithout(Tree.Kind.REMAINDER, Tree.Kind.DIVIDE_ASSIGNMENT, Tree.Kind.REMAINDER_ASSIGNMENT);
        for (TreePath path : SOURCE.binaries) {
            if (path.getLeaf().getKind() == Tree.Kind.DIVIDE) {
                MethodTree method = (MethodTree) Source.around(path);
                Check.dueText(at(path) + " stands in", method.getName().toString(), "fullness");
            }
        }
    }

    /** Answers the calls that stand open at most from this method on, 1000 and more if it can come back to itself. */
    private static int depth(Element method, Deque<Element> open) {
        if (open.contains(method)) {
            return 1000;
        }
        open.push(method);
        int deepest = 0;
        for (Element called : SOURCE.calls.getOrDefault(method, Set.of())) {
            deepest = Math.max(deepest, depth(called, open));
        }
        open.pop();
        return deepest + 1;
    }

    @Says(rule = 8, value = "Recursion:")
    @Says(rule = 11, value = "calls that are no recursion go at most eight deep")
    static void rule08And11NoRecursionAndCallsAtMostEightDeep() {
        int deepest = 0;
        for (Element method : SOURCE.calls.keySet()) {
            int depth = depth(method, new ArrayDeque<>());
            Check.dueTrue(method + " goes " + depth + " deep", depth <= 8);
            deepest = Math.max(deepest, depth);
        }
        Check.dueTrue("the calls are seen: " + deepest, deepest > 4);
    }

    // ---- 9 to 12

    @Says(rule = 9, value = "Every loop has an end that can be seen from its own lines (a counter against a bound")
    static void rule09LoopsCountToABound() {
        dueWithout(Tree.Kind.WHILE_LOOP, Tree.Kind.DO_WHILE_LOOP);
        Check.dueTrue("some loops are seen", SOURCE.forLoops.size() > 20);
        for (TreePath path : SOURCE.forLoops) {
            ForLoopTree loop = (ForLoopTree) path.getLeaf();
            Check.due(at(path) + ", its counters", loop.getInitializer().size(), 1);
            String counter = ((VariableTree) loop.getInitializer().get(0)).getName().toString();
            Check.dueText(at(path) + ", its step", loop.getUpdate().get(0).getExpression().toString(), counter + "++");
            boolean bound = false;
            for (ExpressionTree part : Source.parts(loop.getCondition())) {
                bound = bound || (part.getKind() == Tree.Kind.LESS_THAN || part.getKind() == Tree.Kind.LESS_THAN_EQUAL)
                        && ((BinaryTree) part).getLeftOperand().toString().equals(counter);
            }
            Check.dueTrue(at(path) + " has a bound for " + counter, bound);
            Check.dueTrue(at(path) + " leaves " + counter + " alone", !Source.assigns(loop.getStatement(), counter));
        }
    }

    @Says(rule = 10, value = "joining texts by StringBuilder (not by +).")
    static void rule10NoTextsAreJoined() {
        for (TreePath path : SOURCE.binaries) {
            Check.dueTrue(at(path) + " has no text", isNumber(SOURCE.type(path)));
        }
        for (TreePath path : SOURCE.compoundAssignments) {
            Tree variable = ((CompoundAssignmentTree) path.getLeaf()).getVariable();
            Check.dueTrue(at(path) + " has no text", isNumber(SOURCE.type(path, variable)));
        }
    }

    @Says(rule = 11, value = "A method takes at most seven parameters. Methods stay short (some sixty lines)")
    static void rule11MethodsAreShort() {
        for (TreePath path : SOURCE.methods) {
            MethodTree method = (MethodTree) path.getLeaf();
            Check.dueTrue(method.getName() + " takes at most seven parameters", method.getParameters().size() <= 7);
            Check.dueTrue(method.getName() + " has at most sixty lines", SOURCE.lines(method) <= 60);
        }
    }

    @Says(rule = 11, value = "the file has at most some twelve classes, and a class some twenty fields beside its constants.")
    static void rule11FewClassesWithFewFields() {
        Check.dueTrue("at most twelve classes", SOURCE.classes.size() <= 12);
        for (TreePath path : SOURCE.classes) {
            int fields = 0;
            for (Tree member : ((ClassTree) path.getLeaf()).getMembers()) {
                fields += member instanceof VariableTree
                        && !((VariableTree) member).getModifiers().getFlags().contains(Modifier.STATIC) ? 1 : 0;
            }
            Check.dueTrue(at(path) + " has at most twenty fields", fields <= 20);
        }
    }

    @Says(rule = 12, value = "What a run makes is counted")
    static void rule12OnlyConstructorsMakeObjects() {
        Check.dueTrue("some are seen", SOURCE.news.size() > 10);
        for (TreePath path : SOURCE.news) {
            Tree around = Source.around(path);
            boolean inConstructor = around instanceof ClassTree
                    || ((MethodTree) around).getReturnType() == null;
            Check.dueTrue(at(path) + " is made by a constructor, or thrown", inConstructor
                    || path.getParentPath().getLeaf() instanceof ThrowTree);
        }
    }

    @Says(rule = 13, value = "No clock, no randomness, no file, network, thread or environment")
    static void rule13NothingFromOutside() {
        for (String call : SOURCE.libraryCalls) {
            for (String outside : List.of("Time", "nano", "random", "Random", "Thread", "getenv", "getProperty", "in.", "out.")) {
                Check.dueTrue(call + " is no " + outside, !call.contains(outside));
            }
        }
    }
}
