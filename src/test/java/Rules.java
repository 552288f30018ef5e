import com.sun.source.tree.ArrayAccessTree;
import com.sun.source.tree.AssignmentTree;
import com.sun.source.tree.BinaryTree;
import com.sun.source.tree.ClassTree;
import com.sun.source.tree.CompilationUnitTree;
import com.sun.source.tree.CompoundAssignmentTree;
import com.sun.source.tree.DoWhileLoopTree;
import com.sun.source.tree.ExpressionTree;
import com.sun.source.tree.ForLoopTree;
import com.sun.source.tree.ImportTree;
import com.sun.source.tree.LiteralTree;
import com.sun.source.tree.MethodInvocationTree;
import com.sun.source.tree.MethodTree;
import com.sun.source.tree.NewArrayTree;
import com.sun.source.tree.NewClassTree;
import com.sun.source.tree.ThrowTree;
import com.sun.source.tree.Tree;
import com.sun.source.tree.TypeCastTree;
import com.sun.source.tree.UnaryTree;
import com.sun.source.tree.VariableTree;
import com.sun.source.tree.WhileLoopTree;
import com.sun.source.util.TreePath;
import com.sun.source.util.TreePathScanner;
import com.sun.source.util.Trees;
import java.util.EnumSet;
import java.util.HashMap;
import java.util.HashSet;
import java.util.Map;
import java.util.Set;
import javax.lang.model.element.Element;
import javax.lang.model.element.ExecutableElement;
import javax.lang.model.element.Modifier;
import javax.lang.model.type.TypeMirror;

/** Goes through a program once and holds each part against the rule of LANGUAGE.md that is about it. */
final class Rules extends TreePathScanner<Void, Void> {
    // what the program uses of the library of rule 4
    private static final Set<String> LIBRARY = Set.of("java.lang.String.indexOf(int)",
        "java.lang.System.arraycopy(java.lang.Object,int,java.lang.Object,int,int)", "java.lang.Math.min(int,int)",
        "java.lang.Math.max(int,int)", "java.lang.Math.min(long,long)", "java.lang.Math.max(long,long)",
        "java.lang.Math.abs(int)", "java.lang.Integer.bitCount(int)", "java.lang.Object.Object()");
    private static final Set<String> PLAIN = Set.of("int", "long", "boolean", "char", "int[]", "long[]", "boolean[]",
        "int[][]", "void", "java.lang.String");
    private static final Set<String> CONSTANTS = Set.of("int", "long", "boolean", "char", "java.lang.String", "int[]",
        "long[]", "char[]", "byte[]");
    private static final EnumSet<Tree.Kind> RULED_OUT = EnumSet.of(Tree.Kind.LAMBDA_EXPRESSION,
        Tree.Kind.MEMBER_REFERENCE, Tree.Kind.TRY, Tree.Kind.SYNCHRONIZED, Tree.Kind.ASSERT, Tree.Kind.INSTANCE_OF,
        Tree.Kind.ENHANCED_FOR_LOOP, Tree.Kind.ANNOTATION, Tree.Kind.LABELED_STATEMENT, Tree.Kind.FLOAT_LITERAL,
        Tree.Kind.DOUBLE_LITERAL, Tree.Kind.PARAMETERIZED_TYPE, Tree.Kind.PACKAGE);

    private static final EnumSet<Tree.Kind> STEPS = EnumSet.of(Tree.Kind.PREFIX_INCREMENT, Tree.Kind.POSTFIX_INCREMENT,
        Tree.Kind.PREFIX_DECREMENT, Tree.Kind.POSTFIX_DECREMENT);

    int classes = 0;
    final Map<Element, Set<Element>> calls = new HashMap<>();
    private final Trees trees;
    private final CompilationUnitTree file;

    Rules(Trees trees, CompilationUnitTree file) {
        this.trees = trees;
        this.file = file;
    }

    private long line(Tree tree, boolean end) {
        long place = end ? trees.getSourcePositions().getEndPosition(file, tree)
            : trees.getSourcePositions().getStartPosition(file, tree);
        return file.getLineMap().getLineNumber(place);
    }

    private void due(int rule, String what, boolean got) {
        Check.due("rule " + rule + ", line " + line(getCurrentPath().getLeaf(), false) + ": " + what, got, true);
    }

    private TypeMirror typeOf(Tree tree) {
        return trees.getTypeMirror(new TreePath(getCurrentPath(), tree));
    }

    private Element elementOf(Tree tree) {
        return trees.getElement(new TreePath(getCurrentPath(), tree));
    }

    private static boolean isOwn(String type) {
        return type.startsWith("LabelRoom") && !type.endsWith("[][]");
    }

    private static boolean isStatic(Element element) {
        return element != null && element.getModifiers().contains(Modifier.STATIC);
    }

    /** The method in which the scanner is; null in a field's first value. */
    private MethodTree method() {
        for (TreePath path = getCurrentPath(); path != null; path = path.getParentPath()) {
            if (path.getLeaf() instanceof MethodTree found) {
                return found;
            }
        }
        return null;
    }

    private boolean isInMethod() {
        MethodTree method = method();
        return method != null && method.getReturnType() != null;
    }

    @Override
    public Void scan(Tree tree, Void nothing) {
        if (tree != null) {
            Check.due("ruled out: " + tree.getKind() + " at line " + line(tree, false), RULED_OUT.contains(tree.getKind()),
                false);
        }
        return super.scan(tree, nothing);
    }

    @Override
    public Void visitImport(ImportTree tree, Void nothing) {
        due(4, "" + tree, tree.getQualifiedIdentifier().toString().equals("java.util.NoSuchElementException"));
        return super.visitImport(tree, nothing);
    }

    @Override
    public Void visitClass(ClassTree tree, Void nothing) {
        classes++;
        due(2, "no class within a method", method() == null);
        due(2, "a plain class", tree.getKind() == Tree.Kind.CLASS);
        long fields = tree.getMembers().stream()
            .filter(member -> member instanceof VariableTree field && !isStatic(elementOf(field))).count();
        due(11, "some twenty fields", fields <= 20);
        due(5, "no block beside methods", tree.getMembers().stream().noneMatch(one -> one.getKind() == Tree.Kind.BLOCK));
        return super.visitClass(tree, nothing);
    }

    @Override
    public Void visitMethod(MethodTree tree, Void nothing) {
        due(11, "seven parameters at most", tree.getParameters().size() <= 7);
        due(11, "some sixty lines", line(tree, true) - line(tree, false) < 60);
        calls.putIfAbsent(trees.getElement(getCurrentPath()), new HashSet<>());
        return super.visitMethod(tree, nothing);
    }

    @Override
    public Void visitVariable(VariableTree tree, Void nothing) {
        Element element = trees.getElement(getCurrentPath());
        String type = element.asType().toString();
        due(3, tree.getName() + " is of " + type, PLAIN.contains(type) || isOwn(type));
        if (isStatic(element)) {
            due(5, tree.getName() + " is final", element.getModifiers().contains(Modifier.FINAL));
            due(5, tree.getName() + " is a constant", CONSTANTS.contains(type) && tree.getInitializer() != null);
            due(5, tree.getName() + " is written out", !type.endsWith("]")
                || tree.getInitializer() instanceof NewArrayTree row && row.getInitializers() != null);
        }
        return super.visitVariable(tree, nothing);
    }

    @Override
    public Void visitMethodInvocation(MethodInvocationTree tree, Void nothing) {
        ExecutableElement called = (ExecutableElement) trees.getElement(getCurrentPath());
        String owner = called.getEnclosingElement().toString();
        String name = owner + "." + (called.getSimpleName().contentEquals("<init>") ? "Object()" : called.toString());
        due(4, name + " is of the library", isOwn(owner) || LIBRARY.contains(name));
        if (isOwn(owner) && method() != null) {
            calls.computeIfAbsent(trees.getElement(trees.getPath(file, method())), one -> new HashSet<>()).add(called);
        }
        return super.visitMethodInvocation(tree, nothing);
    }

    @Override
    public Void visitNewClass(NewClassTree tree, Void nothing) {
        boolean thrown = getCurrentPath().getParentPath().getLeaf() instanceof ThrowTree;
        due(12, "objects are made with the room", thrown || !isInMethod());
        due(2, "no class without a name", tree.getClassBody() == null);
        due(4, tree.getIdentifier() + " is an own class", thrown || isOwn(typeOf(tree.getIdentifier()).toString()));
        return super.visitNewClass(tree, nothing);
    }

    @Override
    public Void visitNewArray(NewArrayTree tree, Void nothing) {
        due(12, "arrays are made with the room", !isInMethod());
        return super.visitNewArray(tree, nothing);
    }

    @Override
    public Void visitThrow(ThrowTree tree, Void nothing) {
        boolean plain = tree.getExpression() instanceof NewClassTree made
            && made.getIdentifier().toString().equals("NoSuchElementException")
            && made.getArguments().stream().allMatch(given -> given.getKind() == Tree.Kind.STRING_LITERAL);
        due(6, "throws what the document names, with a written text", plain && isInMethod());
        return super.visitThrow(tree, nothing);
    }

    @Override
    public Void visitTypeCast(TypeCastTree tree, Void nothing) {
        due(6, "casts numbers alone", typeOf(tree.getType()).getKind().isPrimitive());
        return super.visitTypeCast(tree, nothing);
    }

    @Override
    public Void visitBinary(BinaryTree tree, Void nothing) {
        String type = trees.getTypeMirror(getCurrentPath()).toString();
        due(10, "no texts joined by a sign", !type.equals("java.lang.String"));
        if (tree.getKind() == Tree.Kind.EQUAL_TO || tree.getKind() == Tree.Kind.NOT_EQUAL_TO) {
            due(6, "numbers alone are compared", typeOf(tree.getLeftOperand()).getKind().isPrimitive());
        }
        if (tree.getKind() == Tree.Kind.DIVIDE || tree.getKind() == Tree.Kind.REMAINDER) {
            due(7, tree + " divides by what was looked at", isSafeDivisor(tree.getRightOperand()));
        }
        return super.visitBinary(tree, nothing);
    }

    /** A constant, or one ahead of which a test stands (a draw's m, a law's /). */
    private boolean isSafeDivisor(ExpressionTree divisor) {
        Element named = elementOf(divisor);
        return divisor instanceof LiteralTree || isStatic(named) || hasTest(divisor.toString());
    }

    private boolean hasTest(String name) {
        for (TreePath path = getCurrentPath(); path != null; path = path.getParentPath()) {
            if (path.getLeaf().getKind() == Tree.Kind.CONDITIONAL_EXPRESSION) {
                String text = path.getLeaf().toString();
                return text.startsWith(name + " < 1 ? 0 :") || text.startsWith(name + " == 0 ? 0 :");
            }
        }
        return false;
    }

    @Override
    public Void visitAssignment(AssignmentTree tree, Void nothing) {
        changed(tree.getVariable());
        return super.visitAssignment(tree, nothing);
    }

    @Override
    public Void visitCompoundAssignment(CompoundAssignmentTree tree, Void nothing) {
        changed(tree.getVariable());
        due(10, "no texts joined by a sign", typeOf(tree.getVariable()).getKind().isPrimitive());
        return super.visitCompoundAssignment(tree, nothing);
    }

    @Override
    public Void visitUnary(UnaryTree tree, Void nothing) {
        if (STEPS.contains(tree.getKind())) {
            changed(tree.getExpression());
        }
        return super.visitUnary(tree, nothing);
    }

    private void changed(ExpressionTree what) {
        ExpressionTree whole = what instanceof ArrayAccessTree place ? place.getExpression() : what;
        due(5, whole + " is no constant", !(whole instanceof ArrayAccessTree) && !isStatic(elementOf(whole)));
    }

    @Override
    public Void visitForLoop(ForLoopTree tree, Void nothing) {
        due(9, "its end can be seen", tree.getCondition() != null && tree.getUpdate().size() == 1);
        return super.visitForLoop(tree, nothing);
    }

    @Override
    public Void visitWhileLoop(WhileLoopTree tree, Void nothing) {
        String condition = tree.getCondition().toString();
        due(9, condition + " has a counter and a bound", condition.startsWith("(at < length &&")
            || condition.startsWith("(at > 0 &&") || condition.startsWith("(i < size[holds] &&"));
        return super.visitWhileLoop(tree, nothing);
    }

    @Override
    public Void visitDoWhileLoop(DoWhileLoopTree tree, Void nothing) {
        due(9, "no loop that looks for its end behind it", false);
        return super.visitDoWhileLoop(tree, nothing);
    }
}
