import com.sun.source.tree.BinaryTree;
import com.sun.source.tree.CompilationUnitTree;
import com.sun.source.tree.ExpressionTree;
import com.sun.source.tree.MethodInvocationTree;
import com.sun.source.tree.MethodTree;
import com.sun.source.tree.NewClassTree;
import com.sun.source.tree.ThrowTree;
import com.sun.source.tree.Tree;
import com.sun.source.util.JavacTask;
import com.sun.source.util.TreePath;
import com.sun.source.util.TreePathScanner;
import com.sun.source.util.Trees;
import java.io.IOException;
import java.nio.file.Path;
import java.util.EnumSet;
import java.util.HashMap;
import java.util.HashSet;
import java.util.LinkedHashMap;
import java.util.LinkedHashSet;
import java.util.Map;
import java.util.Set;
import javax.lang.model.element.Element;
import javax.lang.model.element.ElementKind;
import javax.lang.model.element.ExecutableElement;
import javax.lang.model.element.VariableElement;
import javax.lang.model.type.TypeKind;
import javax.tools.JavaCompiler;
import javax.tools.StandardJavaFileManager;
import javax.tools.ToolProvider;

/** The rules of ../shared/LANGUAGE.md that need the program's tree: its library, its statements, and how deep calls go. */
public final class TreeTest extends TreePathScanner<Void, Void> {
    private static final Check CHECK = new Check();
    private static final int DEEPEST = 8;
    private static final Set<String> LIBRARY = Set.of("String.length()", "String.charAt(int)", "Math.max(int,int)",
        "Math.max(long,long)", "Math.min(int,int)", "Math.min(long,long)", "Math.abs(int)", "Math.floorDiv(int,int)",
        "System.arraycopy(java.lang.Object,int,java.lang.Object,int,int)", "Arrays.fill(int[],int)",
        "Arrays.fill(byte[],byte)", "Object.Object()", "NoSuchElementException.NoSuchElementException()",
        "IllegalArgumentException.IllegalArgumentException()");
    private static final Set<Tree.Kind> BANNED = EnumSet.of(Tree.Kind.LAMBDA_EXPRESSION, Tree.Kind.MEMBER_REFERENCE,
        Tree.Kind.TRY, Tree.Kind.CATCH, Tree.Kind.SYNCHRONIZED, Tree.Kind.ASSERT, Tree.Kind.SWITCH_EXPRESSION,
        Tree.Kind.YIELD, Tree.Kind.AND_ASSIGNMENT, Tree.Kind.OR_ASSIGNMENT, Tree.Kind.XOR_ASSIGNMENT,
        Tree.Kind.INSTANCE_OF, Tree.Kind.WHILE_LOOP, Tree.Kind.DO_WHILE_LOOP, Tree.Kind.FLOAT_LITERAL,
        Tree.Kind.DOUBLE_LITERAL, Tree.Kind.ANNOTATION, Tree.Kind.ERRONEOUS);

    private final Trees trees;
    private final Map<String, Set<String>> calls = new LinkedHashMap<>();
    private final Map<String, Integer> depths = new HashMap<>();
    private String method;

    private TreeTest(Trees trees) {
        this.trees = trees;
    }

    public static void main(String[] args) throws IOException {
        JavaCompiler compiler = ToolProvider.getSystemJavaCompiler();
        try (StandardJavaFileManager files = compiler.getStandardFileManager(null, null, null)) {
            JavacTask task = (JavacTask) compiler.getTask(null, files, null, null, null,
                files.getJavaFileObjects(Path.of("src/main/java/LabourExchange.java")));
            Iterable<? extends CompilationUnitTree> units = task.parse();
            task.analyze();
            TreeTest test = new TreeTest(Trees.instance(task));
            for (CompilationUnitTree unit : units) {
                test.scan(unit, null);
            }
            test.recursion();
            test.depth();
        }
        CHECK.end();
    }

    @Override
    public Void scan(Tree tree, Void nothing) {
        if (tree != null) {
            boolean banned = BANNED.contains(tree.getKind());
            CHECK.due(banned ? tree.getKind() + " in " + method : "a tree", false, banned);
        }
        return super.scan(tree, nothing);
    }

    @Override
    public Void visitMethod(MethodTree tree, Void nothing) {
        method = name((ExecutableElement) trees.getElement(getCurrentPath()));
        calls.put(method, new LinkedHashSet<>());
        super.visitMethod(tree, nothing);
        method = null;
        return null;
    }

    @Override
    public Void visitMethodInvocation(MethodInvocationTree tree, Void nothing) {
        called();
        return super.visitMethodInvocation(tree, nothing);
    }

    @Override
    public Void visitNewClass(NewClassTree tree, Void nothing) {
        called();
        return super.visitNewClass(tree, nothing);
    }

    @Override
    public Void visitThrow(ThrowTree tree, Void nothing) {
        CHECK.due("a throw of something new in " + method, true, tree.getExpression().getKind() == Tree.Kind.NEW_CLASS);
        CHECK.due("a throw in a constructor: " + method, false, method.contains(".<init>"));
        return super.visitThrow(tree, nothing);
    }

    /** Rule 10: texts are not joined by +, masks are of numbers. */
    @Override
    public Void visitBinary(BinaryTree tree, Void nothing) {
        boolean sum = tree.getKind() == Tree.Kind.PLUS;
        boolean mask = EnumSet.of(Tree.Kind.AND, Tree.Kind.OR, Tree.Kind.XOR).contains(tree.getKind());
        for (ExpressionTree side : new ExpressionTree[] {tree.getLeftOperand(), tree.getRightOperand()}) {
            TypeKind kind = trees.getTypeMirror(new TreePath(getCurrentPath(), side)).getKind();
            CHECK.due("a sum of " + kind + ": " + tree, false, sum && !kind.isPrimitive());
            CHECK.due("a mask of " + kind + ": " + tree, false, mask && kind == TypeKind.BOOLEAN);
        }
        return super.visitBinary(tree, nothing);
    }

    private void called() {
        Element element = trees.getElement(getCurrentPath());
        if (!(element instanceof ExecutableElement) || method == null) {
            return;
        }
        ExecutableElement call = (ExecutableElement) element;
        if (outermost(call).equals("LabourExchange")) {
            calls.get(method).add(name(call));
        } else {
            CHECK.due("the library's " + plainName(call) + " in " + method, true, LIBRARY.contains(plainName(call)));
        }
    }

    private static String outermost(Element element) {
        Element at = element;
        while (at.getEnclosingElement() != null && at.getEnclosingElement().getKind() != ElementKind.PACKAGE) {
            at = at.getEnclosingElement();
        }
        return at.getSimpleName().toString();
    }

    private static String name(ExecutableElement call) {
        return call.getEnclosingElement().getSimpleName() + "." + call.getSimpleName() + parameters(call);
    }

    private static String plainName(ExecutableElement call) {
        String owner = call.getEnclosingElement().getSimpleName().toString();
        boolean constructor = call.getKind() == ElementKind.CONSTRUCTOR;
        return owner + "." + (constructor ? owner : call.getSimpleName()) + parameters(call);
    }

    private static String parameters(ExecutableElement call) {
        StringBuilder all = new StringBuilder("(");
        for (VariableElement parameter : call.getParameters()) {
            all.append(all.length() > 1 ? "," : "").append(parameter.asType());
        }
        return all.append(')').toString();
    }

    /** Rule 8: only the reading of EXPRESSIONS comes back to itself. */
    private void recursion() {
        for (String from : calls.keySet()) {
            if (reached(from).contains(from)) {
                CHECK.due("recursion of " + from, true, from.matches("Reader\\.read(Expression|Conjunction|Negation|Test"
                    + "|Sum|Product|Part)\\(int\\)"));
            }
        }
    }

    private Set<String> reached(String from) {
        Set<String> all = new HashSet<>(calls.get(from));
        boolean grows = true;
        while (grows) {
            Set<String> more = new HashSet<>(all);
            for (String to : all) {
                more.addAll(calls.getOrDefault(to, Set.of()));
            }
            grows = all.addAll(more);
        }
        return all;
    }

    /** Rule 11: calls that are no recursion go at most eight deep; all of a recursion together counts as one. */
    private void depth() {
        CHECK.due("methods read", true, calls.size() > 100);
        for (String from : calls.keySet()) {
            CHECK.due("depth below " + from + ": " + depthOf(from), true, depthOf(from) <= DEEPEST);
        }
    }

    private int depthOf(String from) {
        Integer kept = depths.get(from);
        if (kept != null) {
            return kept;
        }
        Set<String> circle = new HashSet<>(Set.of(from));
        for (String to : reached(from)) {
            if (reached(to).contains(from)) {
                circle.add(to);
            }
        }
        int below = 0;
        for (String one : circle) {
            for (String to : calls.get(one)) {
                below = circle.contains(to) ? below : Math.max(below, calls.containsKey(to) ? depthOf(to) : 1);
            }
        }
        depths.put(from, below + 1);
        return below + 1;
    }
}
