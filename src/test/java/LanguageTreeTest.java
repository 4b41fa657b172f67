import com.sun.source.tree.AssignmentTree;
import com.sun.source.tree.BinaryTree;
import com.sun.source.tree.BlockTree;
import com.sun.source.tree.ClassTree;
import com.sun.source.tree.CompilationUnitTree;
import com.sun.source.tree.CompoundAssignmentTree;
import com.sun.source.tree.DoWhileLoopTree;
import com.sun.source.tree.ExpressionTree;
import com.sun.source.tree.ForLoopTree;
import com.sun.source.tree.MethodInvocationTree;
import com.sun.source.tree.MethodTree;
import com.sun.source.tree.NewArrayTree;
import com.sun.source.tree.NewClassTree;
import com.sun.source.tree.Tree;
import com.sun.source.tree.VariableTree;
import com.sun.source.tree.WhileLoopTree;
import com.sun.source.util.JavacTask;
import com.sun.source.util.TreePath;
import com.sun.source.util.TreePathScanner;
import com.sun.source.util.Trees;
import java.io.IOException;
import java.nio.file.Path;
import java.util.EnumSet;
import java.util.LinkedHashMap;
import java.util.LinkedHashSet;
import java.util.List;
import java.util.Map;
import java.util.Set;
import javax.lang.model.element.Element;
import javax.lang.model.element.ElementKind;
import javax.lang.model.element.ExecutableElement;
import javax.lang.model.element.Modifier;
import javax.lang.model.element.VariableElement;
import javax.lang.model.type.TypeMirror;
import javax.tools.JavaCompiler;
import javax.tools.StandardJavaFileManager;
import javax.tools.ToolProvider;

/** What of LANGUAGE.md can be seen in the tree that the compiler makes of the source; each message begins with the rule. */
public final class LanguageTreeTest extends TreePathScanner<Void, Void> {
    private static final Set<Tree.Kind> RULED_OUT = EnumSet.of(Tree.Kind.LAMBDA_EXPRESSION, Tree.Kind.MEMBER_REFERENCE,
        Tree.Kind.THROW, Tree.Kind.TRY, Tree.Kind.CATCH, Tree.Kind.SYNCHRONIZED, Tree.Kind.ASSERT, Tree.Kind.IMPORT,
        Tree.Kind.PACKAGE, Tree.Kind.ANNOTATION, Tree.Kind.ANNOTATION_TYPE, Tree.Kind.TYPE_CAST, Tree.Kind.ERRONEOUS);
    /** Of the library's part that rule 4 leaves, what the class needs. */
    private static final Set<String> LIBRARY = Set.of("java.lang.String.length", "java.lang.String.charAt",
        "java.lang.Math.max", "java.lang.Math.min", "java.lang.Math.abs", "java.lang.Integer.bitCount",
        "java.lang.System.arraycopy");
    private static final Set<String> PLAIN = Set.of("int", "long", "boolean", "java.lang.String");
    private static final int DEEPEST = 8;

    private final Trees trees;
    private final CompilationUnitTree unit;
    private final Map<String, Set<String>> callsOf = new LinkedHashMap<>();
    private final Set<String> open = new LinkedHashSet<>();
    private String method = "";
    private boolean making;
    private int classes;

    private LanguageTreeTest(Trees trees, CompilationUnitTree unit) {
        this.trees = trees;
        this.unit = unit;
    }

    public static void main(String[] args) throws IOException {
        JavaCompiler compiler = ToolProvider.getSystemJavaCompiler();
        try (StandardJavaFileManager files = compiler.getStandardFileManager(null, null, null)) {
            JavacTask task = (JavacTask) compiler.getTask(null, files, null, List.of("-proc:none", "--release", "17"), null,
                    files.getJavaFileObjects(Path.of("src/main/java/ClayBoots.java")));
            for (CompilationUnitTree unit : task.parse()) {
                task.analyze();
                LanguageTreeTest test = new LanguageTreeTest(Trees.instance(task), unit);
                test.scan(new TreePath(unit), null);
                test.depths();
            }
        }
        Due.end();
    }

    private void rule(int number, String what, Tree at, boolean holds) {
        long line = unit.getLineMap().getLineNumber(trees.getSourcePositions().getStartPosition(unit, at));
        Due.is("rule " + number + ", line " + line + ": " + what, holds, true);
    }

    private Element element(Tree tree) {
        return trees.getElement(new TreePath(getCurrentPath(), tree));
    }

    private TypeMirror type(Tree tree) {
        return trees.getTypeMirror(new TreePath(getCurrentPath(), tree));
    }

    @Override
    public Void scan(Tree tree, Void none) {
        if (tree != null && RULED_OUT.contains(tree.getKind())) {
            // A cast among numbers is safe without a test.
            boolean number = tree.getKind() == Tree.Kind.TYPE_CAST && type(tree) != null && type(tree).getKind().isPrimitive();
            rule(6, "there is no " + tree.getKind(), tree, number);
        }
        return super.scan(tree, none);
    }

    @Override
    public Void visitClass(ClassTree tree, Void none) {
        classes++;
        Set<Modifier> modifiers = tree.getModifiers().getFlags();
        boolean outer = getCurrentPath().getParentPath().getLeaf().getKind() == Tree.Kind.COMPILATION_UNIT;
        boolean member = getCurrentPath().getParentPath().getLeaf().getKind() == Tree.Kind.CLASS;
        rule(2, "a class inside is a static member", tree, outer || member && modifiers.contains(Modifier.STATIC));
        rule(1, "a class inside is not public", tree, outer == modifiers.contains(Modifier.PUBLIC));
        rule(11, "some twelve classes", tree, classes <= 12);
        int fields = 0;
        for (Tree part : tree.getMembers()) {
            rule(5, "no block in a class", part, !(part instanceof BlockTree));
            if (part instanceof VariableTree field && !field.getModifiers().getFlags().contains(Modifier.STATIC)) {
                fields++;
            }
        }
        rule(11, "some twenty fields", tree, fields <= 20);
        return super.visitClass(tree, none);
    }

    @Override
    public Void visitMethod(MethodTree tree, Void none) {
        ExecutableElement self = (ExecutableElement) trees.getElement(getCurrentPath());
        String outer = method;
        boolean was = making;
        method = nameOf(self);
        making = self.getKind() == ElementKind.CONSTRUCTOR;
        callsOf.putIfAbsent(method, new LinkedHashSet<>());
        if (self.getModifiers().contains(Modifier.PUBLIC)) {
            open.add(method);
        }
        long from = unit.getLineMap().getLineNumber(trees.getSourcePositions().getStartPosition(unit, tree));
        long to = unit.getLineMap().getLineNumber(Math.max(0, trees.getSourcePositions().getEndPosition(unit, tree)));
        rule(11, "a method is short", tree, to - from < 60);
        rule(11, "seven parameters", tree, tree.getParameters().size() <= 7);
        rule(6, "nothing is thrown", tree, tree.getThrows().isEmpty());
        super.visitMethod(tree, none);
        method = outer;
        making = was;
        return null;
    }

    private static String nameOf(ExecutableElement e) {
        return e.getEnclosingElement() + "." + e.getSimpleName();
    }

    @Override
    public Void visitVariable(VariableTree tree, Void none) {
        Element self = trees.getElement(getCurrentPath());
        String name = self.asType().toString();
        String one = name.replaceFirst("(\\[\\])+$", "");
        int dimensions = (name.length() - one.length()) / 2;
        boolean own = one.startsWith("ClayBoots");
        rule(3, "a type that is left: " + name, tree, (PLAIN.contains(one) || own) && dimensions <= (own || one.contains(".") ? 1 : 2));
        if (self.getKind() == ElementKind.FIELD && self.getModifiers().contains(Modifier.STATIC)) {
            boolean constant = self instanceof VariableElement v && v.getConstantValue() != null;
            rule(5, "what is static is a constant", tree, constant && self.getModifiers().contains(Modifier.FINAL));
        }
        boolean field = self.getKind() == ElementKind.FIELD;
        boolean was = making;
        making = making || field;
        super.visitVariable(tree, none);
        making = was;
        return null;
    }

    @Override
    public Void visitMethodInvocation(MethodInvocationTree tree, Void none) {
        Element called = trees.getElement(getCurrentPath());
        rule(4, "what is called is known: " + tree, tree, called instanceof ExecutableElement);
        if (called instanceof ExecutableElement e) {
            String name = nameOf(e);
            boolean own = name.startsWith("ClayBoots");
            boolean above = e.getKind() == ElementKind.CONSTRUCTOR && name.startsWith("java.lang.Object.");
            rule(4, "the library's part that is left: " + name, tree, own || above || LIBRARY.contains(name));
            if (own) {
                callsOf.get(method).add(name);
            }
        }
        return super.visitMethodInvocation(tree, none);
    }

    @Override
    public Void visitNewClass(NewClassTree tree, Void none) {
        rule(12, "only a constructor makes objects", tree, making);
        rule(2, "no class without a name", tree, tree.getClassBody() == null);
        return super.visitNewClass(tree, none);
    }

    @Override
    public Void visitNewArray(NewArrayTree tree, Void none) {
        rule(12, "only a constructor makes rows", tree, making);
        for (ExpressionTree length : tree.getDimensions()) {
            rule(7, "a length is not below 0: " + length, length, isConstant(length) || length.toString().startsWith("Math.max(0,"));
        }
        return super.visitNewArray(tree, none);
    }

    private boolean isConstant(ExpressionTree tree) {
        if (tree.getKind() == Tree.Kind.INT_LITERAL) {
            return !tree.toString().equals("0");
        }
        if (tree instanceof BinaryTree pair) {
            return isConstant(pair.getLeftOperand()) && isConstant(pair.getRightOperand())
                    && (pair.getKind() == Tree.Kind.PLUS || pair.getKind() == Tree.Kind.MULTIPLY);
        }
        return tree.getKind() == Tree.Kind.IDENTIFIER && trees.getElement(trees.getPath(unit, tree)) instanceof VariableElement v
                && v.getConstantValue() instanceof Integer value && value > 0;
    }

    @Override
    public Void visitBinary(BinaryTree tree, Void none) {
        if (tree.getKind() == Tree.Kind.DIVIDE || tree.getKind() == Tree.Kind.REMAINDER) {
            divides(tree, tree.getRightOperand());
        }
        boolean alike = tree.getKind() == Tree.Kind.EQUAL_TO || tree.getKind() == Tree.Kind.NOT_EQUAL_TO;
        if (alike || tree.getKind() == Tree.Kind.PLUS) {
            boolean text = isText(tree.getLeftOperand()) || isText(tree.getRightOperand());
            rule(alike ? 6 : 10, "no texts joined or held against another by a sign", tree, !text);
        }
        return super.visitBinary(tree, none);
    }

    private boolean isText(ExpressionTree tree) {
        TypeMirror type = type(tree);
        return type != null && type.toString().equals("java.lang.String");
    }

    @Override
    public Void visitCompoundAssignment(CompoundAssignmentTree tree, Void none) {
        if (tree.getKind() == Tree.Kind.DIVIDE_ASSIGNMENT || tree.getKind() == Tree.Kind.REMAINDER_ASSIGNMENT) {
            divides(tree, tree.getExpression());
        }
        return super.visitCompoundAssignment(tree, none);
    }

    /** A divisor is a constant, or its own method looks at it. */
    private void divides(Tree tree, ExpressionTree by) {
        TreePath around = getCurrentPath();
        while (around != null && around.getLeaf().getKind() != Tree.Kind.METHOD) {
            around = around.getParentPath();
        }
        String text = around == null ? "" : around.getLeaf().toString();
        boolean looked = text.contains(by + " > 0") || text.contains(by + " == 0") || text.contains(by + " = Math.max(1,");
        rule(7, "a divisor is looked at: " + by, tree, isConstant(by) || by.getKind() == Tree.Kind.IDENTIFIER && looked);
    }

    @Override
    public Void visitForLoop(ForLoopTree tree, Void none) {
        rule(9, "a loop's end can be seen", tree, tree.getCondition() != null && tree.getUpdate().size() == 1);
        return super.visitForLoop(tree, none);
    }

    @Override
    public Void visitWhileLoop(WhileLoopTree tree, Void none) {
        String condition = tree.getCondition().toString();
        rule(9, "a loop's end can be seen", tree, condition.contains("<") || condition.contains(">"));
        return super.visitWhileLoop(tree, none);
    }

    @Override
    public Void visitDoWhileLoop(DoWhileLoopTree tree, Void none) {
        String condition = tree.getCondition().toString();
        rule(9, "a loop's end can be seen", tree, condition.contains("<") || condition.contains(">"));
        return super.visitDoWhileLoop(tree, none);
    }

    @Override
    public Void visitAssignment(AssignmentTree tree, Void none) {
        rule(10, "an assignment stands by itself", tree,
                getCurrentPath().getParentPath().getLeaf().getKind() == Tree.Kind.EXPRESSION_STATEMENT);
        return super.visitAssignment(tree, none);
    }

    /** Rules 8 and 11: no method comes back to itself, and calls go at most eight deep. */
    private void depths() {
        Due.is("rule 11: the tree has the public face", open.size(), 43 + 1);
        int deepest = 0;
        for (String name : callsOf.keySet()) {
            int deep = depth(name, new LinkedHashSet<>());
            Due.is("rule 11: " + name + " goes " + deep + " deep", deep <= DEEPEST, true);
            deepest = Math.max(deepest, deep);
        }
        Due.is("rule 11: calls are seen", deepest > 3, true);
    }

    private int depth(String name, Set<String> above) {
        Due.is("rule 8: " + name + " comes back to itself", above.contains(name), false);
        if (above.contains(name)) {
            return 0;
        }
        above.add(name);
        int below = 0;
        for (String next : callsOf.getOrDefault(name, Set.of())) {
            below = Math.max(below, depth(next, above));
        }
        above.remove(name);
        return below + 1;
    }
}
