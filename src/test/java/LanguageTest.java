import com.sun.source.tree.AssertTree;
import com.sun.source.tree.BinaryTree;
import com.sun.source.tree.BlockTree;
import com.sun.source.tree.ClassTree;
import com.sun.source.tree.CompilationUnitTree;
import com.sun.source.tree.CompoundAssignmentTree;
import com.sun.source.tree.ConditionalExpressionTree;
import com.sun.source.tree.DoWhileLoopTree;
import com.sun.source.tree.EnhancedForLoopTree;
import com.sun.source.tree.ExpressionTree;
import com.sun.source.tree.ForLoopTree;
import com.sun.source.tree.ImportTree;
import com.sun.source.tree.LambdaExpressionTree;
import com.sun.source.tree.LiteralTree;
import com.sun.source.tree.MemberReferenceTree;
import com.sun.source.tree.MethodInvocationTree;
import com.sun.source.tree.MethodTree;
import com.sun.source.tree.NewClassTree;
import com.sun.source.tree.ParenthesizedTree;
import com.sun.source.tree.SynchronizedTree;
import com.sun.source.tree.ThrowTree;
import com.sun.source.tree.Tree;
import com.sun.source.tree.TryTree;
import com.sun.source.tree.VariableTree;
import com.sun.source.tree.WhileLoopTree;
import com.sun.source.util.JavacTask;
import com.sun.source.util.TreePath;
import com.sun.source.util.TreePathScanner;
import com.sun.source.util.Trees;
import java.nio.file.Path;
import java.util.HashMap;
import java.util.List;
import java.util.Map;
import java.util.Set;
import java.util.TreeSet;
import javax.lang.model.element.Element;
import javax.lang.model.element.ElementKind;
import javax.lang.model.element.ExecutableElement;
import javax.lang.model.element.Modifier;
import javax.lang.model.element.VariableElement;
import javax.tools.JavaCompiler;
import javax.tools.StandardJavaFileManager;
import javax.tools.ToolProvider;

/** The rules of LANGUAGE.md that can be seen in the program's text, but for those of the face (FaceTest has these). */
public final class LanguageTest extends TreePathScanner<Void, Void> {
    // Of what the rules list, these sets have what the program uses: they grow with it, as far as the rules go.
    private static final Set<String> IMPORTS =
        Set.of("java.util.ArrayList", "java.util.Arrays", "java.util.List");
    private static final Set<String> EXCEPTIONS = Set.of("IllegalStateException", "IllegalArgumentException",
        "IndexOutOfBoundsException", "UnsupportedOperationException");
    private static final Set<String> LIBRARY = Set.of("List.add", "List.get", "List.set", "List.remove(int)",
        "List.size", "List.isEmpty", "List.clear", "Arrays.copyOf", "System.arraycopy", "Arrays.fill",
        "ArrayList.ArrayList()", "Object.Object()");
    private static final Set<String> PLAIN_TYPES =
        Set.of("int", "long", "char", "boolean", "int[]", "char[]", "int[][]", "java.lang.String");
    private static final Set<String> CONSTANT_TYPES = Set.of("int", "long", "char", "boolean", "java.lang.String");
    private static final Set<String> OBJECT_METHODS = Set.of("equals", "hashCode", "toString", "finalize", "clone");
    /** Methods that call themselves or one another, each with its depth as an argument. */
    private static final Map<String, String> RECURSIVE = Map.of("Judge.bind", "depth", "Reader.readSum", "open",
        "Reader.readProduct", "open", "Reader.readFactor", "open");

    private final Trees trees;
    private final CompilationUnitTree unit;
    private final Map<String, Set<String>> calls = new HashMap<>();
    private final Map<String, MethodTree> methods = new HashMap<>();
    private String current = "";
    private int classes;

    private LanguageTest(Trees trees, CompilationUnitTree unit) {
        this.trees = trees;
        this.unit = unit;
    }

    public static void main(String[] args) throws Exception {
        JavaCompiler compiler = ToolProvider.getSystemJavaCompiler();
        try (StandardJavaFileManager files = compiler.getStandardFileManager(null, null, null)) {
            JavacTask task = (JavacTask) compiler.getTask(null, files, null, List.of("-proc:none"), null,
                files.getJavaFileObjects(Path.of("src/main/java/GrantChain.java")));
            CompilationUnitTree unit = task.parse().iterator().next();
            task.analyze();
            new LanguageTest(Trees.instance(task), unit).look();
        }
        Bench.close();
    }

    private void look() {
        scan(unit, null);
        holds(unit.getPackageName() == null, unit, "no package line");
        holds(classes <= 12, unit, "rule 11: at most some twelve classes");
        lookAtRecursion();
        for (String method : methods.keySet()) {
            int depth = depth(method);
            holds(depth <= 8, methods.get(method), "rule 11: calls at most eight deep, not " + depth);
        }
    }

    private void holds(boolean kept, Tree where, String rule) {
        long at = trees.getSourcePositions().getStartPosition(unit, where);
        long line = at < 0 ? 0 : unit.getLineMap().getLineNumber(at);
        Bench.due("line " + line + ", " + rule + ": kept", kept ? 1 : 0, 1);
    }

    private Element here() {
        return trees.getElement(getCurrentPath());
    }

    private static boolean isOwn(Element element) {
        for (Element e = element; e != null; e = e.getEnclosingElement()) {
            if (e.getKind().isClass() && e.getSimpleName().contentEquals("GrantChain")) {
                return true;
            }
        }
        return false;
    }

    private static String nameOf(Element method) {
        String owner = method.getEnclosingElement().getSimpleName() + ".";
        return owner + (method.getKind() == ElementKind.CONSTRUCTOR
            ? method.getEnclosingElement().getSimpleName() + "()" : method.getSimpleName());
    }

    @Override
    public Void visitImport(ImportTree tree, Void none) {
        holds(!tree.isStatic() && IMPORTS.contains(tree.getQualifiedIdentifier().toString()), tree, "rule 4: imports");
        return super.visitImport(tree, none);
    }

    @Override
    public Void visitClass(ClassTree tree, Void none) {
        classes++;
        Element element = here();
        boolean inside = element.getEnclosingElement().getKind().isClass();
        Set<Modifier> modifiers = element.getModifiers();
        holds(!inside || modifiers.contains(Modifier.STATIC), tree, "rule 2: classes inside are static");
        holds(modifiers.contains(Modifier.FINAL), tree, "classes of this program are final");
        int fields = 0;
        for (Tree member : tree.getMembers()) {
            boolean isField = member.getKind() == Tree.Kind.VARIABLE;
            fields += isField && !((VariableTree) member).getModifiers().getFlags().contains(Modifier.STATIC) ? 1 : 0;
            holds(!(member instanceof BlockTree), member, "rule 5: no initialiser block");
        }
        holds(fields <= 20, tree, "rule 11: some twenty fields");
        return super.visitClass(tree, none);
    }

    @Override
    public Void visitMethod(MethodTree tree, Void none) {
        String outer = current;
        current = nameOf(here());
        holds(!methods.containsKey(current), tree, "methods of one class have names of their own, " + current);
        methods.put(current, tree);
        calls.put(current, new TreeSet<>());
        holds(tree.getParameters().size() <= 7, tree, "rule 11: at most seven parameters");
        long start = trees.getSourcePositions().getStartPosition(unit, tree);
        long end = trees.getSourcePositions().getEndPosition(unit, tree);
        long lines = unit.getLineMap().getLineNumber(end) - unit.getLineMap().getLineNumber(start) + 1;
        holds(lines <= 60, tree, "rule 11: methods stay short");
        holds(!OBJECT_METHODS.contains(tree.getName().toString()), tree, "rule 6: no equals, hashCode or toString");
        super.visitMethod(tree, none);
        current = outer;
        return null;
    }

    @Override
    public Void visitVariable(VariableTree tree, Void none) {
        VariableElement variable = (VariableElement) here();
        String type = variable.asType().toString();
        String own = "GrantChain\\.\\w+(\\[])?|java\\.util\\.(Array)?List<GrantChain\\.\\w+>";
        holds(PLAIN_TYPES.contains(type) || type.matches(own), tree, "rule 3: the type " + type);
        if (variable.getModifiers().contains(Modifier.STATIC)) {
            boolean constant = variable.getConstantValue() != null && CONSTANT_TYPES.contains(type);
            holds(constant && variable.getModifiers().contains(Modifier.FINAL), tree, "rule 5: static fields");
        }
        return super.visitVariable(tree, none);
    }

    @Override
    public Void visitMethodInvocation(MethodInvocationTree tree, Void none) {
        note((ExecutableElement) here(), tree);
        return super.visitMethodInvocation(tree, none);
    }

    @Override
    public Void visitNewClass(NewClassTree tree, Void none) {
        holds(tree.getClassBody() == null, tree, "no class without a name");
        if (getCurrentPath().getParentPath().getLeaf().getKind() != Tree.Kind.THROW) {
            note((ExecutableElement) here(), tree);
        }
        return super.visitNewClass(tree, none);
    }

    private void note(ExecutableElement called, Tree tree) {
        String name = nameOf(called);
        if (!isOwn(called)) {
            boolean listed = LIBRARY.contains(name) || LIBRARY.contains(name + "(" + parameters(called) + ")");
            holds(listed && tree.toString().startsWith("super(") == name.equals("Object.Object()"), tree,
                "rule 4: the library's " + name + "(" + parameters(called) + ")");
        }
        if (calls.containsKey(current)) {
            calls.get(current).add(name);
        }
    }

    private static String parameters(ExecutableElement method) {
        StringBuilder text = new StringBuilder();
        for (VariableElement parameter : method.getParameters()) {
            text.append(text.length() == 0 ? "" : ",").append(parameter.asType());
        }
        return text.toString();
    }

    @Override
    public Void visitThrow(ThrowTree tree, Void none) {
        ExpressionTree thrown = tree.getExpression();
        boolean made = thrown instanceof NewClassTree;
        String kind = made ? ((NewClassTree) thrown).getIdentifier().toString() : "";
        holds(EXCEPTIONS.contains(kind), tree, "rule 6: exceptions");
        holds(made && ((NewClassTree) thrown).getArguments().isEmpty(), tree, "rule 6: throw new E()");
        holds(!current.endsWith("()"), tree, "rule 6: no throw in a constructor");
        holds(current.startsWith("GrantChain."), tree, "the face's own methods throw, and no others");
        return super.visitThrow(tree, none);
    }

    @Override
    public Void visitTry(TryTree tree, Void none) {
        holds(false, tree, "rule 6: nothing of the program needs try");
        return super.visitTry(tree, none);
    }

    @Override
    public Void visitAssert(AssertTree tree, Void none) {
        holds(false, tree, "rule 6: no assert");
        return super.visitAssert(tree, none);
    }

    @Override
    public Void visitSynchronized(SynchronizedTree tree, Void none) {
        holds(false, tree, "rule 6: no synchronized");
        return super.visitSynchronized(tree, none);
    }

    @Override
    public Void visitLambdaExpression(LambdaExpressionTree tree, Void none) {
        holds(false, tree, "rule 2: no lambda");
        return super.visitLambdaExpression(tree, none);
    }

    @Override
    public Void visitMemberReference(MemberReferenceTree tree, Void none) {
        holds(false, tree, "rule 2: no method reference");
        return super.visitMemberReference(tree, none);
    }

    @Override
    public Void visitForLoop(ForLoopTree tree, Void none) {
        holds(tree.getCondition() instanceof BinaryTree && !tree.getUpdate().isEmpty(), tree, "rule 9: a loop's end");
        return super.visitForLoop(tree, none);
    }

    @Override
    public Void visitWhileLoop(WhileLoopTree tree, Void none) {
        boolean compares = ((ParenthesizedTree) tree.getCondition()).getExpression() instanceof BinaryTree;
        holds(compares, tree, "rule 9: a loop's end");
        return super.visitWhileLoop(tree, none);
    }

    @Override
    public Void visitDoWhileLoop(DoWhileLoopTree tree, Void none) {
        boolean compares = ((ParenthesizedTree) tree.getCondition()).getExpression() instanceof BinaryTree;
        holds(compares, tree, "rule 9: a loop's end");
        return super.visitDoWhileLoop(tree, none);
    }

    @Override
    public Void visitEnhancedForLoop(EnhancedForLoopTree tree, Void none) {
        String type = trees.getTypeMirror(new TreePath(getCurrentPath(), tree.getExpression())).toString();
        holds(type.endsWith("[]"), tree, "rule 12: loops over a list go by index");
        return super.visitEnhancedForLoop(tree, none);
    }

    @Override
    public Void visitBinary(BinaryTree tree, Void none) {
        String type = trees.getTypeMirror(getCurrentPath()).toString();
        holds(!type.equals("java.lang.String"), tree, "rule 10: texts are not joined by +");
        boolean divides = tree.getKind() == Tree.Kind.DIVIDE || tree.getKind() == Tree.Kind.REMAINDER;
        holds(!divides || isDivisor(tree.getRightOperand()), tree, "rule 7: a divisor is looked at before it divides");
        return super.visitBinary(tree, none);
    }

    /** A written number that is not 0, or what has just been found not to be 0, in the form of x == 0 ? .. : .. / x. */
    private boolean isDivisor(ExpressionTree divisor) {
        Tree around = getCurrentPath().getParentPath().getLeaf();
        boolean looked = around instanceof ConditionalExpressionTree
            && ((ConditionalExpressionTree) around).getFalseExpression() == getCurrentPath().getLeaf()
            && ((ConditionalExpressionTree) around).getCondition().toString().equals(divisor + " == 0");
        return looked || divisor instanceof LiteralTree && !((LiteralTree) divisor).getValue().equals(0);
    }

    @Override
    public Void visitCompoundAssignment(CompoundAssignmentTree tree, Void none) {
        String type = trees.getTypeMirror(getCurrentPath()).toString();
        holds(!type.equals("java.lang.String"), tree, "rule 10: texts are not joined by +");
        holds(tree.getKind() != Tree.Kind.DIVIDE_ASSIGNMENT && tree.getKind() != Tree.Kind.REMAINDER_ASSIGNMENT, tree,
            "rule 7: a divisor is looked at before it divides");
        return super.visitCompoundAssignment(tree, none);
    }

    private void lookAtRecursion() {
        for (String method : methods.keySet()) {
            boolean recursive = reachable(method).contains(method);
            holds(recursive == RECURSIVE.containsKey(method), methods.get(method), "rule 8: recursion of " + method);
            holds(!recursive || hasParameter(method, RECURSIVE.getOrDefault(method, "")), methods.get(method),
                "rule 8: the depth is an argument of " + method);
        }
    }

    private boolean hasParameter(String method, String name) {
        return methods.get(method).getParameters().stream().anyMatch(p -> p.getName().contentEquals(name));
    }

    private Set<String> reachable(String method) {
        Set<String> found = new TreeSet<>();
        gather(method, found);
        return found;
    }

    private void gather(String method, Set<String> found) {
        for (String called : calls.getOrDefault(method, Set.of())) {
            if (found.add(called)) {
                gather(called, found);
            }
        }
    }

    /** How many calls stand open at most, if each method of a recursion is entered once. */
    private int depth(String method) {
        return depth(method, new TreeSet<>());
    }

    private int depth(String method, Set<String> open) {
        int deepest = 0;
        open.add(method);
        for (String called : calls.getOrDefault(method, Set.of())) {
            if (!open.contains(called)) {
                deepest = Math.max(deepest, depth(called, open));
            }
        }
        open.remove(method);
        return deepest + 1;
    }
}
