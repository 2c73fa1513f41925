import com.sun.source.tree.*;
import com.sun.source.util.JavacTask;
import com.sun.source.util.TreePath;
import com.sun.source.util.TreePathScanner;
import com.sun.source.util.Trees;
import java.io.IOException;
import java.nio.file.Path;
import java.util.ArrayDeque;
import java.util.Deque;
import java.util.HashMap;
import java.util.HashSet;
import java.util.Map;
import java.util.Set;
import java.util.TreeSet;
import javax.lang.model.element.Element;
import javax.lang.model.element.Modifier;
import javax.lang.model.type.TypeMirror;
import javax.tools.JavaCompiler;
import javax.tools.StandardJavaFileManager;
import javax.tools.ToolProvider;

/** Rules of ../shared/LANGUAGE.md (by number) that the class's source shows, and that no call makes an object. */
public final class RulesTest extends TreePathScanner<Void, Void> {
    private static final Path SOURCE = Path.of("src/main/java/LarderAges.java");
    private static final int MOST_PARAMETERS = 7;
    private static final int MOST_LINES = 60;
    private static final int MOST_DEPTH = 8;
    private static final int MOST_CLASSES = 12;
    private static final int MOST_FIELDS = 20;
    private static final Set<String> LIBRARY = Set.of("java.lang.String.length", "java.lang.String.charAt",
        "java.lang.String.isEmpty", "java.lang.Integer.bitCount", "java.lang.Math.min", "java.lang.Math.max",
        "java.lang.Math.abs");
    private static final Set<String> CONSTANTS = Set.of("int", "long", "boolean", "char", "java.lang.String");
    private static final Set<String> NUMBERS = Set.of("int", "long", "boolean", "short", "byte", "char");
    private static final Set<Tree.Kind> RULED_OUT = Set.of(Tree.Kind.IMPORT, Tree.Kind.PACKAGE, Tree.Kind.TRY, Tree.Kind.THROW,
        Tree.Kind.LAMBDA_EXPRESSION, Tree.Kind.MEMBER_REFERENCE, Tree.Kind.ASSERT, Tree.Kind.SYNCHRONIZED, Tree.Kind.TYPE_CAST,
        Tree.Kind.WHILE_LOOP, Tree.Kind.DO_WHILE_LOOP, Tree.Kind.ENHANCED_FOR_LOOP, Tree.Kind.ANNOTATION, Tree.Kind.FLOAT_LITERAL,
        Tree.Kind.DOUBLE_LITERAL);

    private final Trees trees;
    private final CompilationUnitTree unit;
    private final Map<String, Set<String>> calls = new HashMap<>();
    private final Set<String> faults = new TreeSet<>();
    private final Deque<MethodTree> methods = new ArrayDeque<>();
    private int classes = 0;

    private RulesTest(Trees trees, CompilationUnitTree unit) {
        this.trees = trees;
        this.unit = unit;
    }

    public static void main(String[] args) throws IOException {
        JavaCompiler compiler = ToolProvider.getSystemJavaCompiler();
        try (StandardJavaFileManager files = compiler.getStandardFileManager(null, null, null)) {
            JavacTask task = (JavacTask) compiler.getTask(null, files, null, null, null, files.getJavaFileObjects(SOURCE));
            CompilationUnitTree unit = task.parse().iterator().next();
            task.analyze();
            RulesTest test = new RulesTest(Trees.instance(task), unit);
            test.scan(unit, null);
            test.lookAtDepth();
            for (String fault : test.faults) System.out.println(fault);
            System.out.println(test.calls.size() + " methods, " + test.faults.size() + " faults of the rules");
            if (!test.faults.isEmpty() || test.calls.isEmpty()) System.exit(1);
        }
    }

    private void mustBe(boolean good, Tree at, String fault) {
        if (!good) faults.add("line " + lineOf(trees.getSourcePositions().getStartPosition(unit, at)) + ": " + fault);
    }

    private long lineOf(long position) {
        return position < 0 ? 0 : unit.getLineMap().getLineNumber(position);
    }

    private Element elementOf(Tree tree) {
        return trees.getElement(TreePath.getPath(unit, tree));
    }

    private TypeMirror typeOf(Tree tree) {
        return trees.getTypeMirror(TreePath.getPath(unit, tree));
    }

    private static String nameOf(Element member) {
        return member.getEnclosingElement() + "." + member.getSimpleName();
    }

    @Override
    public Void scan(Tree tree, Void none) {
        if (tree != null) mustBe(!RULED_OUT.contains(tree.getKind()), tree, "holds " + tree.getKind());
        return super.scan(tree, none);
    }

    @Override
    public Void visitClass(ClassTree tree, Void none) {
        classes++;
        mustBe(classes <= MOST_CLASSES, tree, "11: too many classes");
        int fields = 0;
        for (Tree member : tree.getMembers()) {
            mustBe(member.getKind() != Tree.Kind.BLOCK, member, "5: an initialiser block");
            if (member instanceof VariableTree) {
                VariableTree field = (VariableTree) member;
                boolean isStatic = field.getModifiers().getFlags().contains(Modifier.STATIC);
                if (isStatic) lookAtConstant(field);
                else fields++;
            }
        }
        mustBe(fields <= MOST_FIELDS, tree, "11: too many fields");
        return super.visitClass(tree, none);
    }

    private void lookAtConstant(VariableTree field) {
        mustBe(field.getModifiers().getFlags().contains(Modifier.FINAL), field, "5: a static field that is not final");
        mustBe(CONSTANTS.contains(typeOf(field).toString()), field, "5: a constant of another type");
    }

    @Override
    public Void visitVariable(VariableTree tree, Void none) {
        String type = typeOf(tree).toString();
        String single = type.replaceFirst("(\\[\\])+$", "");
        boolean isOwn = single.startsWith("LarderAges");
        boolean isText = type.equals("java.lang.String");
        mustBe(isOwn || isText || NUMBERS.contains(single), tree, "3: the type " + type);
        return super.visitVariable(tree, none);
    }

    @Override
    public Void visitMethod(MethodTree tree, Void none) {
        calls.putIfAbsent(nameOf(elementOf(tree)), new HashSet<>());
        mustBe(!tree.getModifiers().getFlags().contains(Modifier.NATIVE), tree, "7: a native method");
        mustBe(tree.getParameters().size() <= MOST_PARAMETERS, tree, "11: too many parameters");
        long begin = lineOf(trees.getSourcePositions().getStartPosition(unit, tree));
        long end = lineOf(trees.getSourcePositions().getEndPosition(unit, tree));
        mustBe(end - begin < MOST_LINES, tree, "11: a method too long");
        methods.push(tree);
        super.visitMethod(tree, none);
        methods.pop();
        return null;
    }

    @Override
    public Void visitMethodInvocation(MethodInvocationTree tree, Void none) {
        Element callee = elementOf(tree);
        String name = nameOf(callee);
        boolean isOwn = name.startsWith("LarderAges");
        boolean isSuper = name.equals("java.lang.Object.<init>");
        mustBe(isOwn || isSuper || LIBRARY.contains(name), tree, "4: calls " + name);
        if (!methods.isEmpty() && !isSuper) calls.get(nameOf(elementOf(methods.peek()))).add(name);
        return super.visitMethodInvocation(tree, none);
    }

    @Override
    public Void visitMemberSelect(MemberSelectTree tree, Void none) {
        Element member = elementOf(tree);
        boolean isLibraryField = member != null && member.getKind().isField() && nameOf(member).startsWith("java.");
        mustBe(!isLibraryField, tree, "4: reads " + tree);
        return super.visitMemberSelect(tree, none);
    }

    @Override
    public Void visitNewClass(NewClassTree tree, Void none) {
        mustBe(methods.isEmpty(), tree, "a call makes an object");
        return super.visitNewClass(tree, none);
    }

    @Override
    public Void visitNewArray(NewArrayTree tree, Void none) {
        mustBe(methods.isEmpty(), tree, "a call makes an array");
        return super.visitNewArray(tree, none);
    }

    @Override
    public Void visitForLoop(ForLoopTree tree, Void none) {
        mustBe(tree.getCondition() != null && tree.getUpdate().size() == 1, tree, "9: a loop whose end is not to be seen");
        return super.visitForLoop(tree, none);
    }

    @Override
    public Void visitBinary(BinaryTree tree, Void none) {
        mustBe(!typeOf(tree).toString().equals("java.lang.String"), tree, "10: joins texts by +");
        boolean divides = tree.getKind() == Tree.Kind.DIVIDE || tree.getKind() == Tree.Kind.REMAINDER;
        if (divides) lookAtDivisor(tree.getRightOperand());
        return super.visitBinary(tree, none);
    }

    @Override
    public Void visitCompoundAssignment(CompoundAssignmentTree tree, Void none) {
        boolean divides = tree.getKind() == Tree.Kind.DIVIDE_ASSIGNMENT || tree.getKind() == Tree.Kind.REMAINDER_ASSIGNMENT;
        if (divides) lookAtDivisor(tree.getExpression());
        return super.visitCompoundAssignment(tree, none);
    }

    /** A written number, a constant, or a name that the method compares with a written number. */
    private void lookAtDivisor(ExpressionTree divisor) {
        boolean isWritten = divisor instanceof LiteralTree && !divisor.toString().matches("0[lL]?");
        boolean isConstant = divisor instanceof IdentifierTree && elementOf(divisor).getModifiers().contains(Modifier.STATIC);
        mustBe(isWritten || isConstant || isCompared(divisor.toString()), divisor, "7: divides by " + divisor);
    }

    private boolean isCompared(String name) {
        return methods.peek() != null && methods.peek().toString().matches("(?s).*\\b" + name + " (==|!=|<|>) [01]\\b.*");
    }

    @Override
    public Void visitLiteral(LiteralTree tree, Void none) {
        if (tree.getValue() instanceof String) {
            boolean isPlain = ((String) tree.getValue()).chars().allMatch(c -> c >= 1 && c <= 127);
            mustBe(isPlain, tree, "4: a text with other signs than 1 to 127");
        }
        return super.visitLiteral(tree, none);
    }

    /** Rules 8 and 11: how many calls stand open at once, the library's own counted too. */
    private void lookAtDepth() {
        for (String method : calls.keySet()) {
            int depth = depthOf(method, 1);
            if (depth > MOST_DEPTH) faults.add(method + ": 11: calls go " + depth + " deep");
        }
    }

    private int depthOf(String method, int open) {
        // Deep enough for a fault; calls in a circle would have no end.
        if (open > MOST_DEPTH) return open;
        int deepest = open;
        for (String callee : calls.getOrDefault(method, Set.of())) deepest = Math.max(deepest, depthOf(callee, open + 1));
        return deepest;
    }
}
