import com.sun.source.tree.AssertTree;
import com.sun.source.tree.BinaryTree;
import com.sun.source.tree.ClassTree;
import com.sun.source.tree.CompilationUnitTree;
import com.sun.source.tree.CompoundAssignmentTree;
import com.sun.source.tree.DoWhileLoopTree;
import com.sun.source.tree.ExpressionTree;
import com.sun.source.tree.ForLoopTree;
import com.sun.source.tree.ImportTree;
import com.sun.source.tree.InstanceOfTree;
import com.sun.source.tree.LambdaExpressionTree;
import com.sun.source.tree.LiteralTree;
import com.sun.source.tree.MemberReferenceTree;
import com.sun.source.tree.MethodInvocationTree;
import com.sun.source.tree.MethodTree;
import com.sun.source.tree.NewArrayTree;
import com.sun.source.tree.NewClassTree;
import com.sun.source.tree.ParenthesizedTree;
import com.sun.source.tree.SynchronizedTree;
import com.sun.source.tree.ThrowTree;
import com.sun.source.tree.Tree;
import com.sun.source.tree.TryTree;
import com.sun.source.tree.TypeCastTree;
import com.sun.source.tree.VariableTree;
import com.sun.source.tree.WhileLoopTree;
import com.sun.source.util.JavacTask;
import com.sun.source.util.TreePath;
import com.sun.source.util.TreePathScanner;
import com.sun.source.util.Trees;
import java.io.IOException;
import java.nio.charset.StandardCharsets;
import java.nio.file.Files;
import java.nio.file.Path;
import java.util.ArrayList;
import java.util.HashSet;
import java.util.List;
import java.util.Map;
import java.util.Set;
import java.util.TreeMap;
import java.util.TreeSet;
import javax.lang.model.element.Element;
import javax.lang.model.element.ElementKind;
import javax.lang.model.element.Modifier;
import javax.lang.model.type.TypeKind;
import javax.lang.model.type.TypeMirror;
import javax.tools.JavaCompiler;
import javax.tools.StandardJavaFileManager;
import javax.tools.ToolProvider;

/** The rules of ../shared/LANGUAGE.md, as far as they can be seen in the program's text, by its number. */
public final class LanguageTest extends TreePathScanner<Void, Void> {
    private static final Path PROGRAM = Path.of("src/main/java/DistrictPlanner.java");
    private static final int MOST_DEPTH = 8;
    private static final Set<String> PLAIN_TYPES = Set.of("int", "long", "short", "byte", "char", "boolean", "double",
            "float", "java.lang.String");
    private static final Set<String> ROUGH_SIGNS = Set.of("PLUS", "MINUS", "MULTIPLY", "DIVIDE", "LESS_THAN",
            "GREATER_THAN", "LESS_THAN_EQUAL", "GREATER_THAN_EQUAL", "EQUAL_TO", "NOT_EQUAL_TO");
    // Of what the rule lists, the program needs only this.
    private static final Set<String> LIBRARY = Set.of("java.lang.System.arraycopy", "java.util.Arrays.fill",
            "java.lang.Math.min", "java.lang.Math.max", "java.lang.Math.abs", "java.lang.Integer.bitCount",
            "java.lang.Long.compare");
    private static final Set<String> EXCEPTIONS = Set.of("IllegalStateException", "IllegalArgumentException",
            "IndexOutOfBoundsException", "ArithmeticException", "UnsupportedOperationException",
            "NoSuchElementException", "RuntimeException");

    private final Trees trees;
    private final CompilationUnitTree unit;
    private final Set<String> open = new HashSet<>();
    private final Map<String, Set<String>> calls = new TreeMap<>();
    private final Set<String> privateStatic = new HashSet<>();
    private int classes = 0;

    private LanguageTest(Trees trees, CompilationUnitTree unit) {
        this.trees = trees;
        this.unit = unit;
    }

    public static void main(String[] args) throws IOException {
        signs();
        JavaCompiler compiler = ToolProvider.getSystemJavaCompiler();
        try (StandardJavaFileManager files = compiler.getStandardFileManager(null, null, null)) {
            JavacTask task = (JavacTask) compiler.getTask(null, files, null, List.of("-proc:none"), null,
                    files.getJavaFileObjects(PROGRAM));
            CompilationUnitTree unit = task.parse().iterator().next();
            task.analyze();
            LanguageTest test = new LanguageTest(Trees.instance(task), unit);
            test.scan(unit, null);
            test.wholeProgram();
        }
        Check.end("LanguageTest");
    }

    /** Tells a broken rule; a rule that is kept is counted, too. */
    private void rule(int number, String what, boolean isKept, Tree where) {
        long line = unit.getLineMap().getLineNumber(trees.getSourcePositions().getStartPosition(unit, where));
        Check.same("rule " + number + ", line " + line + ": " + what, true, isKept);
    }

    private static void signs() throws IOException {
        String code = Files.readString(PROGRAM, StandardCharsets.ISO_8859_1);
        Check.same("rule 4: signs from 1 to 127", true, code.chars().allMatch(c -> c > 0 && c < 128));
    }

    private TypeMirror typeOf(Tree tree) {
        return trees.getTypeMirror(trees.getPath(unit, tree));
    }

    private Element elementOf(Tree tree) {
        return trees.getElement(trees.getPath(unit, tree));
    }

    /** The nearest tree of the kind around the present one, or null. */
    private <T extends Tree> T around(Class<T> kind) {
        for (TreePath path = getCurrentPath().getParentPath(); path != null; path = path.getParentPath()) {
            if (kind.isInstance(path.getLeaf())) {
                return kind.cast(path.getLeaf());
            }
        }
        return null;
    }

    private static boolean isOwn(String type) {
        return type.startsWith("DistrictPlanner");
    }

    private static boolean isFloating(TypeMirror type) {
        return type.getKind() == TypeKind.FLOAT || type.getKind() == TypeKind.DOUBLE;
    }

    private static boolean isConstructor(MethodTree method) {
        return method.getReturnType() == null;
    }

    // ---- 1 and 2: the face, classes inside

    @Override
    public Void visitCompilationUnit(CompilationUnitTree node, Void none) {
        Check.same("rule 1: no package line", true, node.getPackage() == null);
        Check.same("rule 1: one class in the file", 1, node.getTypeDecls().size());
        return super.visitCompilationUnit(node, none);
    }

    @Override
    public Void visitImport(ImportTree node, Void none) {
        rule(4, "import " + node.getQualifiedIdentifier(), Set.of("java.util.Arrays",
                "java.util.NoSuchElementException").contains(node.getQualifiedIdentifier().toString()), node);
        return super.visitImport(node, none);
    }

    @Override
    public Void visitClass(ClassTree node, Void none) {
        Set<Modifier> modifiers = node.getModifiers().getFlags();
        classes++;
        if (around(ClassTree.class) == null) {
            rule(1, "public and final", modifiers.equals(Set.of(Modifier.PUBLIC, Modifier.FINAL)), node);
            for (Tree member : node.getMembers()) {
                if (member instanceof MethodTree method
                        && method.getModifiers().getFlags().contains(Modifier.PUBLIC)) {
                    open.add(method.getName().toString());
                }
            }
        } else {
            rule(1, "hidden and static", modifiers.contains(Modifier.STATIC) && !modifiers.contains(Modifier.PUBLIC)
                    && !modifiers.contains(Modifier.PROTECTED), node);
        }
        int fields = 0;
        for (Tree member : node.getMembers()) {
            boolean isField = member instanceof VariableTree field
                    && !field.getModifiers().getFlags().contains(Modifier.STATIC);
            fields += isField ? 1 : 0;
            rule(5, "no initialiser block", member.getKind() != Tree.Kind.BLOCK, member);
        }
        rule(11, "at most twenty fields", fields <= 20, node);
        return super.visitClass(node, none);
    }

    @Override
    public Void visitLambdaExpression(LambdaExpressionTree node, Void none) {
        rule(2, "no lambda", false, node);
        return super.visitLambdaExpression(node, none);
    }

    @Override
    public Void visitMemberReference(MemberReferenceTree node, Void none) {
        rule(2, "no method reference", false, node);
        return super.visitMemberReference(node, none);
    }

    // ---- 3, 5 and 10: types, static fields, operators

    @Override
    public Void visitVariable(VariableTree node, Void none) {
        TypeMirror type = typeOf(node.getType());
        String name = type.toString();
        String element = name.replace("[]", "");
        boolean isFlat = !name.endsWith("[][]") || PLAIN_TYPES.contains(element);
        rule(3, "the type " + name, (PLAIN_TYPES.contains(element) || isOwn(element)) && isFlat, node);
        if (node.getModifiers().getFlags().contains(Modifier.STATIC)) {
            rule(5, "a static field is a constant", node.getModifiers().getFlags().contains(Modifier.FINAL)
                    && PLAIN_TYPES.contains(name) && node.getInitializer() != null, node);
        }
        boolean isLocal = around(MethodTree.class) != null;
        rule(1, "a field of the face is private", isLocal || around(ClassTree.class) != unit.getTypeDecls().get(0)
                || node.getModifiers().getFlags().contains(Modifier.PRIVATE), node);
        return super.visitVariable(node, none);
    }

    @Override
    public Void visitBinary(BinaryTree node, Void none) {
        looksAtOperands(node, node.getKind().toString(), node.getLeftOperand(), node.getRightOperand());
        return super.visitBinary(node, none);
    }

    @Override
    public Void visitCompoundAssignment(CompoundAssignmentTree node, Void none) {
        String kind = node.getKind().toString().replace("_ASSIGNMENT", "");
        looksAtOperands(node, kind, node.getVariable(), node.getExpression());
        return super.visitCompoundAssignment(node, none);
    }

    private void looksAtOperands(Tree node, String kind, ExpressionTree left, ExpressionTree right) {
        String types = typeOf(left) + " " + typeOf(right);
        rule(10, "no joining or comparing of texts", !types.contains("String"), node);
        if (isFloating(typeOf(left)) || isFloating(typeOf(right))) {
            rule(3, kind + " of floats", ROUGH_SIGNS.contains(kind), node);
        }
        if (kind.equals("DIVIDE") || kind.equals("REMAINDER")) {
            rule(7, "the divisor " + right + " is looked at", isNeverZero(right), node);
        }
    }

    /** A constant, a number that its method compares with 0, the number of districts, or a product of such ones. */
    private boolean isNeverZero(Tree divisor) {
        if (divisor instanceof TypeCastTree cast) {
            return isNeverZero(cast.getExpression());
        }
        if (divisor instanceof ParenthesizedTree inParentheses) {
            return isNeverZero(inParentheses.getExpression());
        }
        if (divisor instanceof BinaryTree product && product.getKind() == Tree.Kind.MULTIPLY) {
            return isNeverZero(product.getLeftOperand()) && isNeverZero(product.getRightOperand());
        }
        Element element = elementOf(divisor);
        boolean isConstant = divisor instanceof LiteralTree
                || element != null && element.getModifiers().contains(Modifier.STATIC);
        String method = around(MethodTree.class).toString();
        return isConstant || divisor.toString().equals("now.districts") || method.contains(divisor + " == 0")
                || method.contains(divisor + " != 0");
    }

    @Override
    public Void visitTypeCast(TypeCastTree node, Void none) {
        rule(6, "casts of numbers alone", typeOf(node.getType()).getKind().isPrimitive(), node);
        return super.visitTypeCast(node, none);
    }

    @Override
    public Void visitInstanceOf(InstanceOfTree node, Void none) {
        rule(6, "no instanceof is needed", false, node);
        return super.visitInstanceOf(node, none);
    }

    // ---- 4: the library

    @Override
    public Void visitMethodInvocation(MethodInvocationTree node, Void none) {
        Element called = elementOf(node.getMethodSelect());
        String owner = called.getEnclosingElement().toString();
        if (isOwn(owner)) {
            callersOf(around(MethodTree.class)).add(owner + "." + called);
        } else if (!called.getSimpleName().contentEquals("<init>")) {
            String name = owner + "." + called.getSimpleName();
            boolean isRough = node.getArguments().stream().map(this::typeOf).anyMatch(LanguageTest::isFloating);
            rule(4, "the call of " + name, LIBRARY.contains(name) && !isRough, node);
        }
        return super.visitMethodInvocation(node, none);
    }

    private Set<String> callersOf(MethodTree method) {
        return calls.computeIfAbsent(nameOf(method), name -> new TreeSet<>());
    }

    private String nameOf(MethodTree method) {
        Element element = trees.getElement(trees.getPath(unit, method));
        return element.getEnclosingElement() + "." + element;
    }

    // ---- 6: exceptions

    @Override
    public Void visitThrow(ThrowTree node, Void none) {
        boolean isMade = node.getExpression() instanceof NewClassTree;
        rule(6, "throw new E(..)", isMade, node);
        if (isMade) {
            NewClassTree made = (NewClassTree) node.getExpression();
            boolean isWritten = made.getArguments().stream().allMatch(part -> part instanceof LiteralTree);
            rule(6, "the exception " + made.getIdentifier(), EXCEPTIONS.contains(made.getIdentifier().toString())
                    && made.getArguments().size() <= 1 && isWritten && made.getClassBody() == null, node);
        }
        rule(6, "no throw in a constructor", !isConstructor(around(MethodTree.class)), node);
        return super.visitThrow(node, none);
    }

    @Override
    public Void visitTry(TryTree node, Void none) {
        rule(6, "nothing is caught", false, node);
        return super.visitTry(node, none);
    }

    @Override
    public Void visitSynchronized(SynchronizedTree node, Void none) {
        rule(6, "no synchronized", false, node);
        return super.visitSynchronized(node, none);
    }

    @Override
    public Void visitAssert(AssertTree node, Void none) {
        rule(6, "no assert", false, node);
        return super.visitAssert(node, none);
    }

    // ---- 8 and 11: methods

    @Override
    public Void visitMethod(MethodTree node, Void none) {
        String name = node.getName().toString();
        Set<Modifier> modifiers = node.getModifiers().getFlags();
        boolean isOfFace = around(ClassTree.class) == unit.getTypeDecls().get(0);
        rule(1, name + " is public or private", !isOfFace || modifiers.contains(Modifier.PUBLIC)
                || modifiers.contains(Modifier.PRIVATE), node);
        rule(1, "the name " + name, isOfFace && modifiers.contains(Modifier.PUBLIC) || isConstructor(node)
                || !open.contains(name), node);
        rule(6, "no " + name + " of objects", !Set.of("equals", "hashCode", "toString").contains(name), node);
        rule(6, "plain " + name, !modifiers.contains(Modifier.SYNCHRONIZED) && !modifiers.contains(Modifier.NATIVE),
                node);
        rule(11, "at most seven parameters", node.getParameters().size() <= 7, node);
        long first = trees.getSourcePositions().getStartPosition(unit, node);
        long last = trees.getSourcePositions().getEndPosition(unit, node);
        long lines = unit.getLineMap().getLineNumber(last) - unit.getLineMap().getLineNumber(first) + 1;
        rule(11, "at most sixty lines", lines <= 60, node);
        callersOf(node);
        if (modifiers.containsAll(Set.of(Modifier.PRIVATE, Modifier.STATIC))) {
            privateStatic.add(nameOf(node));
        }
        return super.visitMethod(node, none);
    }

    private void wholeProgram() {
        Check.same("rule 11: at most twelve classes", true, classes <= 12);
        for (String method : calls.keySet()) {
            if (calls.get(method).contains(method)) {
                Check.same("rule 8: private and static, since it calls itself: " + method, true,
                        privateStatic.contains(method));
            }
        }
        for (String method : calls.keySet()) {
            List<String> chain = longestFrom(method, new ArrayList<>());
            Check.same("rule 11: at most eight calls deep: " + chain, true, chain.size() <= MOST_DEPTH);
        }
    }

    /** The longest chain of calls, where a method that calls itself counts once. */
    private List<String> longestFrom(String method, List<String> above) {
        List<String> chain = new ArrayList<>(above);
        chain.add(method);
        List<String> longest = chain;
        for (String next : calls.getOrDefault(method, Set.of())) {
            Check.same("rule 8: methods that call one another: " + next + " in " + above, false,
                    above.contains(next));
            if (!chain.contains(next)) {
                List<String> longer = longestFrom(next, chain);
                longest = longer.size() > longest.size() ? longer : longest;
            }
        }
        return longest;
    }

    // ---- 9: loops

    @Override
    public Void visitForLoop(ForLoopTree node, Void none) {
        rule(9, "a counter against a bound", node.getCondition() != null && !node.getUpdate().isEmpty()
                && node.getCondition().toString().contains("<"), node);
        return super.visitForLoop(node, none);
    }

    @Override
    public Void visitWhileLoop(WhileLoopTree node, Void none) {
        rule(9, "a counter against a bound", node.getCondition().toString().contains("<"), node);
        return super.visitWhileLoop(node, none);
    }

    @Override
    public Void visitDoWhileLoop(DoWhileLoopTree node, Void none) {
        rule(9, "a counter against a bound", node.getCondition().toString().contains("<"), node);
        return super.visitDoWhileLoop(node, none);
    }

    // ---- 12: objects are made by constructors alone, but for exceptions

    @Override
    public Void visitNewClass(NewClassTree node, Void none) {
        rule(12, "new " + node.getIdentifier(), isMadeOnce() || around(ThrowTree.class) != null, node);
        rule(2, "no anonymous class", node.getClassBody() == null, node);
        return super.visitNewClass(node, none);
    }

    @Override
    public Void visitNewArray(NewArrayTree node, Void none) {
        rule(12, "a new array", isMadeOnce(), node);
        TypeMirror type = typeOf(node);
        rule(3, "of one dimension", type.getKind() == TypeKind.ARRAY && !type.toString().endsWith("[][]"), node);
        return super.visitNewArray(node, none);
    }

    private boolean isMadeOnce() {
        MethodTree method = around(MethodTree.class);
        return method == null || isConstructor(method)
                && trees.getElement(trees.getPath(unit, method)).getKind() == ElementKind.CONSTRUCTOR;
    }
}
