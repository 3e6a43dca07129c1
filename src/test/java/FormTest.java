import com.sun.source.tree.BinaryTree;
import com.sun.source.tree.ClassTree;
import com.sun.source.tree.CompilationUnitTree;
import com.sun.source.tree.CompoundAssignmentTree;
import com.sun.source.tree.ConditionalExpressionTree;
import com.sun.source.tree.ExpressionTree;
import com.sun.source.tree.LambdaExpressionTree;
import com.sun.source.tree.LiteralTree;
import com.sun.source.tree.MemberReferenceTree;
import com.sun.source.tree.MethodInvocationTree;
import com.sun.source.tree.MethodTree;
import com.sun.source.tree.NewClassTree;
import com.sun.source.tree.ThrowTree;
import com.sun.source.tree.Tree;
import com.sun.source.tree.TryTree;
import com.sun.source.tree.VariableTree;
import com.sun.source.util.JavacTask;
import com.sun.source.util.TreePath;
import com.sun.source.util.TreePathScanner;
import com.sun.source.util.Trees;
import java.io.File;
import java.util.HashMap;
import java.util.HashSet;
import java.util.List;
import java.util.Map;
import java.util.Set;
import java.util.TreeMap;
import java.util.TreeSet;
import javax.lang.model.element.Element;
import javax.lang.model.element.ElementKind;
import javax.lang.model.element.ExecutableElement;
import javax.lang.model.element.Modifier;
import javax.lang.model.element.VariableElement;
import javax.tools.JavaCompiler;
import javax.tools.StandardJavaFileManager;
import javax.tools.ToolProvider;

/**
 * What of ../shared/LANGUAGE.md the compiler's own tree of the one file shows: which library is called, what is thrown
 * where, who calls whom and how deep, how large classes are. It is run from the project's folder.
 */
final class FormTest extends TreePathScanner<Void, Void> {
    private static final int DEEP = 8;
    private static final int CLASSES = 12;
    private static final int FIELDS = 20;
    private static final int PARAMETERS = 7;
    private static final Set<String> LIBRARY = Set.of("java.util.Arrays.fill", "java.util.Arrays.copyOf",
            "java.lang.System.arraycopy", "java.lang.Math.max", "java.lang.Math.min", "java.lang.Integer.bitCount");
    private static final Set<String> THROWN = Set.of("IllegalStateException", "IllegalArgumentException",
            "IndexOutOfBoundsException", "UnsupportedOperationException", "NoSuchElementException");
    private static final Set<String> RECURSIVE = Set.of("LawText.readCondition", "LawText.readAtom");

    private final Trees trees;
    private final Map<String, Set<String>> calls = new TreeMap<>();
    private final Map<String, Integer> deepest = new HashMap<>();
    private final Set<String> faces = new TreeSet<>();
    private final Set<String> privates = new TreeSet<>();
    private String method = "";
    private int classes = 0;
    private int thrown = 0;

    private FormTest(Trees trees) {
        this.trees = trees;
    }

    public static void main(String[] args) throws Exception {
        JavaCompiler compiler = ToolProvider.getSystemJavaCompiler();
        try (StandardJavaFileManager files = compiler.getStandardFileManager(null, null, null)) {
            JavacTask task = (JavacTask) compiler.getTask(null, files, null, List.of("-proc:none"), null,
                    files.getJavaFileObjects(new File("src/main/java/GhostAssize.java")));
            FormTest form = new FormTest(Trees.instance(task));
            Iterable<? extends CompilationUnitTree> units = task.parse();
            task.analyze();
            for (CompilationUnitTree unit : units) {
                form.scan(unit, null);
            }
            form.close();
        }
        Check.close();
    }

    private void close() {
        Check.same("rule 11: classes " + classes, classes <= CLASSES, true);
        Check.same("something is thrown", thrown > 10, true);
        for (String name : privates) {
            Check.same("rule 1: a private method bears the name of a public one: " + name, faces.contains(name), false);
        }
        for (String each : calls.keySet()) {
            boolean again = reaches(each, each, new HashSet<>());
            Check.same("rule 8: " + each + " comes to itself", again, RECURSIVE.contains(each));
        }
        for (String each : calls.keySet()) {
            Check.same("rule 11: calls below " + each + " go " + deep(each) + " deep", deep(each) <= DEEP, true);
        }
        Check.same("the calls of law() are seen", deep("GhostAssize.law") > 4, true);
    }

    private boolean reaches(String from, String to, Set<String> seen) {
        for (String next : calls.getOrDefault(from, Set.of())) {
            if (next.equals(to) || seen.add(next) && reaches(next, to, seen)) {
                return true;
            }
        }
        return false;
    }

    /** The longest chain of calls that are no recursion: one that comes to itself counts once. */
    private int deep(String from) {
        Integer known = deepest.get(from);
        if (known != null) {
            return known;
        }
        deepest.put(from, 1);
        int below = 0;
        for (String next : calls.getOrDefault(from, Set.of())) {
            boolean isBack = RECURSIVE.contains(from) && RECURSIVE.contains(next) && !isDown(from, next);
            below = Math.max(below, isBack ? 0 : deep(next));
        }
        deepest.put(from, below + 1);
        return below + 1;
    }

    private static boolean isDown(String from, String next) {
        return from.equals("LawText.readCondition") && next.equals("LawText.readAtom");
    }

    @Override
    public Void visitClass(ClassTree node, Void none) {
        classes++;
        int fields = 0;
        Element self = trees.getElement(getCurrentPath());
        boolean isInside = self.getEnclosingElement().getKind() == ElementKind.CLASS;
        Check.same("rule 2: " + node.getSimpleName() + " is static", !isInside || self.getModifiers().contains(Modifier.STATIC), true);
        for (Tree member : node.getMembers()) {
            if (member instanceof VariableTree) {
                boolean isStatic = ((VariableTree) member).getModifiers().getFlags().contains(Modifier.STATIC);
                fields += isStatic ? 0 : 1;
            }
        }
        Check.same("rule 11: fields of " + node.getSimpleName() + " " + fields, fields <= FIELDS, true);
        return super.visitClass(node, none);
    }

    @Override
    public Void visitVariable(VariableTree node, Void none) {
        Element variable = trees.getElement(getCurrentPath());
        if (variable.getModifiers().contains(Modifier.STATIC)) {
            boolean isConstant = variable.getModifiers().contains(Modifier.FINAL)
                    && ((VariableElement) variable).getConstantValue() != null;
            Check.same("rule 5: " + node.getName() + " is a constant", isConstant, true);
        }
        String type = variable.asType().toString();
        Check.same("rule 3: the type " + type, type.matches("(int|boolean|long|char)(\\[\\])?|GhostAssize\\.\\w+(\\[\\])?"), true);
        return super.visitVariable(node, none);
    }

    @Override
    public Void visitMethod(MethodTree node, Void none) {
        ExecutableElement self = (ExecutableElement) trees.getElement(getCurrentPath());
        method = name(self);
        calls.putIfAbsent(method, new TreeSet<>());
        Check.same("rule 11: parameters of " + method, node.getParameters().size() <= PARAMETERS, true);
        if (self.getKind() == ElementKind.METHOD && self.getModifiers().contains(Modifier.PUBLIC)) {
            faces.add(node.getName().toString());
        }
        if (self.getModifiers().contains(Modifier.PRIVATE)) {
            privates.add(node.getName().toString());
        }
        super.visitMethod(node, none);
        method = "";
        return null;
    }

    @Override
    public Void visitMethodInvocation(MethodInvocationTree node, Void none) {
        called(trees.getElement(getCurrentPath()));
        return super.visitMethodInvocation(node, none);
    }

    @Override
    public Void visitNewClass(NewClassTree node, Void none) {
        called(trees.getElement(getCurrentPath()));
        return super.visitNewClass(node, none);
    }

    private void called(Element to) {
        String whole = to.getEnclosingElement() + "." + to.getSimpleName();
        if (whole.startsWith("GhostAssize")) {
            if (!method.isEmpty()) {
                calls.get(method).add(name(to));
            }
            return;
        }
        boolean isThrown = to.getKind() == ElementKind.CONSTRUCTOR
                && THROWN.contains(to.getEnclosingElement().getSimpleName().toString());
        boolean isObject = whole.equals("java.lang.Object.<init>");
        Check.same("rule 4: " + method + " calls " + whole, LIBRARY.contains(whole) || isThrown || isObject, true);
    }

    private static String name(Element of) {
        return of.getEnclosingElement().getSimpleName() + "." + of.getSimpleName();
    }

    @Override
    public Void visitThrow(ThrowTree node, Void none) {
        thrown++;
        boolean isWritten = false;
        if (node.getExpression() instanceof NewClassTree) {
            NewClassTree made = (NewClassTree) node.getExpression();
            List<? extends ExpressionTree> with = made.getArguments();
            isWritten = THROWN.contains(made.getIdentifier().toString())
                    && (with.isEmpty() || with.size() == 1 && with.get(0) instanceof LiteralTree);
        }
        Check.same("rule 6: " + method + " throws a new one with a written text", isWritten, true);
        Check.same("rule 6: no throw in a constructor: " + method, method.endsWith("<init>"), false);
        return super.visitThrow(node, none);
    }

    @Override
    public Void visitBinary(BinaryTree node, Void none) {
        boolean divides = node.getKind() == Tree.Kind.DIVIDE || node.getKind() == Tree.Kind.REMAINDER;
        if (divides && !isNumber(node.getRightOperand())) {
            Check.same("rule 7: " + method + " looks at " + node.getRightOperand() + " before it divides",
                    isLookedAt(node.getRightOperand().toString()), true);
        }
        return super.visitBinary(node, none);
    }

    @Override
    public Void visitCompoundAssignment(CompoundAssignmentTree node, Void none) {
        boolean divides = node.getKind() == Tree.Kind.DIVIDE_ASSIGNMENT || node.getKind() == Tree.Kind.REMAINDER_ASSIGNMENT;
        Check.same("rule 7: " + method + " divides by a number: " + node, !divides || isNumber(node.getExpression()), true);
        return super.visitCompoundAssignment(node, none);
    }

    private boolean isNumber(ExpressionTree divisor) {
        Element named = trees.getElement(new TreePath(getCurrentPath(), divisor));
        Object value = divisor instanceof LiteralTree ? ((LiteralTree) divisor).getValue()
                : named instanceof VariableElement ? ((VariableElement) named).getConstantValue() : null;
        return value instanceof Integer && (Integer) value != 0;
    }

    /** The division stands behind a ?: whose condition compares the divisor with 0. */
    private boolean isLookedAt(String divisor) {
        for (TreePath path = getCurrentPath(); path != null; path = path.getParentPath()) {
            if (path.getLeaf() instanceof ConditionalExpressionTree) {
                String condition = ((ConditionalExpressionTree) path.getLeaf()).getCondition().toString();
                return condition.contains(divisor + " == 0");
            }
        }
        return false;
    }

    @Override
    public Void visitTry(TryTree node, Void none) {
        Check.same("there is no try: " + method, true, false);
        return super.visitTry(node, none);
    }

    @Override
    public Void visitLambdaExpression(LambdaExpressionTree node, Void none) {
        Check.same("rule 2: no lambda: " + method, true, false);
        return super.visitLambdaExpression(node, none);
    }

    @Override
    public Void visitMemberReference(MemberReferenceTree node, Void none) {
        Check.same("rule 2: no method reference: " + method, true, false);
        return super.visitMemberReference(node, none);
    }
}
