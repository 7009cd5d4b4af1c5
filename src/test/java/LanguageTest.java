import com.sun.source.tree.ArrayAccessTree;
import com.sun.source.tree.BinaryTree;
import com.sun.source.tree.ClassTree;
import com.sun.source.tree.CompilationUnitTree;
import com.sun.source.tree.CompoundAssignmentTree;
import com.sun.source.tree.ExpressionTree;
import com.sun.source.tree.LineMap;
import com.sun.source.tree.LiteralTree;
import com.sun.source.tree.MemberSelectTree;
import com.sun.source.tree.MethodInvocationTree;
import com.sun.source.tree.MethodTree;
import com.sun.source.tree.NewArrayTree;
import com.sun.source.tree.NewClassTree;
import com.sun.source.tree.ParenthesizedTree;
import com.sun.source.tree.Tree;
import com.sun.source.tree.TypeCastTree;
import com.sun.source.tree.VariableTree;
import com.sun.source.util.JavacTask;
import com.sun.source.util.TreePath;
import com.sun.source.util.TreePathScanner;
import com.sun.source.util.Trees;
import java.io.File;
import java.util.HashMap;
import java.util.HashSet;
import java.util.List;
import java.util.Map;
import java.util.Set;
import javax.lang.model.element.Element;
import javax.lang.model.element.ExecutableElement;
import javax.lang.model.element.Modifier;
import javax.tools.JavaCompiler;
import javax.tools.StandardJavaFileManager;
import javax.tools.ToolProvider;

/**
 * Rules of ../shared/LANGUAGE.md that can be read off the source: narrower than they are, just as far as
 * the program needs the language. A change that needs more of it widens this test within those rules.
 */
public final class LanguageTest extends TreePathScanner<Void, Void> {
    private static final Due due = new Due();
    private static final Set<String> LIBRARY = Set.of("java.lang.StringBuilder.append(char)",
            "java.lang.StringBuilder.length()", "java.lang.StringBuilder.setLength(int)",
            "java.lang.StringBuilder.charAt(int)", "java.lang.Math.max(int,int)", "java.lang.Math.min(int,int)",
            "java.lang.Math.floorDiv(int,int)",
            "java.lang.System.arraycopy(java.lang.Object,int,java.lang.Object,int,int)");
    private static final Set<Tree.Kind> UNUSED = Set.of(Tree.Kind.LAMBDA_EXPRESSION, Tree.Kind.MEMBER_REFERENCE,
            Tree.Kind.TRY, Tree.Kind.THROW, Tree.Kind.SYNCHRONIZED, Tree.Kind.ASSERT, Tree.Kind.WHILE_LOOP,
            Tree.Kind.DO_WHILE_LOOP, Tree.Kind.INSTANCE_OF, Tree.Kind.IMPORT, Tree.Kind.PACKAGE);
    private static final Set<Tree.Kind> COMPARISONS = Set.of(Tree.Kind.LESS_THAN, Tree.Kind.LESS_THAN_EQUAL,
            Tree.Kind.GREATER_THAN, Tree.Kind.GREATER_THAN_EQUAL);
    private static final Set<Tree.Kind> DIVISIONS = Set.of(Tree.Kind.DIVIDE, Tree.Kind.REMAINDER,
            Tree.Kind.DIVIDE_ASSIGNMENT, Tree.Kind.REMAINDER_ASSIGNMENT);

    private final Trees trees;
    private final CompilationUnitTree unit;
    private final Map<Element, Set<Element>> calls = new HashMap<>();
    // What was compared with something, so far, in the method that is looked at.
    private final Set<String> compared = new HashSet<>();
    private int classes = 0;

    private LanguageTest(Trees trees, CompilationUnitTree unit) {
        this.trees = trees;
        this.unit = unit;
    }

    /** The first argument is the project's folder; without it, it is the one we are in. */
    public static void main(String[] args) throws Exception {
        File source = new File(args.length > 0 ? args[0] : ".", "src/main/java/RegattaTimes.java");
        JavaCompiler compiler = ToolProvider.getSystemJavaCompiler();
        StandardJavaFileManager files = compiler.getStandardFileManager(null, null, null);
        JavacTask task = (JavacTask) compiler.getTask(null, files, null, List.of("-proc:none"), null,
                files.getJavaFileObjects(source));
        CompilationUnitTree unit = task.parse().iterator().next();
        task.analyze();
        LanguageTest test = new LanguageTest(Trees.instance(task), unit);
        test.scan(new TreePath(unit), null);
        test.finish();
        due.end();
    }

    private void finish() {
        due.holds("rule 11: at most twelve classes", classes <= 12);
        for (Element method : calls.keySet()) {
            due.holds("rule 11: calls of " + method + " go at most eight deep", depth(method, new HashSet<>()) <= 8);
        }
    }

    /** How many calls stand open at once, this one among them; a recursion counts as far too many. */
    private int depth(Element method, Set<Element> open) {
        if (!open.add(method)) {
            return 1000;
        }
        int deepest = 0;
        for (Element called : calls.getOrDefault(method, Set.of())) {
            deepest = Math.max(deepest, depth(called, open));
        }
        open.remove(method);
        return deepest + 1;
    }

    private String at(Tree tree) {
        LineMap lines = unit.getLineMap();
        return "line " + lines.getLineNumber(trees.getSourcePositions().getStartPosition(unit, tree));
    }

    private Element method() {
        for (TreePath path = getCurrentPath(); path != null; path = path.getParentPath()) {
            if (path.getLeaf() instanceof MethodTree) {
                return trees.getElement(path);
            }
        }
        return null;
    }

    private boolean isInConstructor() {
        Element method = method();
        return method != null && method.getSimpleName().contentEquals("<init>");
    }

    @Override
    public Void scan(Tree tree, Void nothing) {
        if (tree != null) {
            due.holds(at(tree) + ": no " + tree.getKind(), !UNUSED.contains(tree.getKind()));
        }
        return super.scan(tree, nothing);
    }

    @Override
    public Void visitClass(ClassTree tree, Void nothing) {
        classes++;
        int fields = 0;
        for (Tree member : tree.getMembers()) {
            if (member instanceof VariableTree) {
                Set<Modifier> flags = ((VariableTree) member).getModifiers().getFlags();
                boolean isStatic = flags.contains(Modifier.STATIC);
                due.holds("rule 5, " + at(member) + ": static fields are final",
                        !isStatic || flags.contains(Modifier.FINAL));
                fields += isStatic ? 0 : 1;
            }
            due.holds("rule 5, " + at(member) + ": no initialiser block", member.getKind() != Tree.Kind.BLOCK);
        }
        due.holds("rule 11: " + tree.getSimpleName() + " has at most twenty fields", fields <= 20);
        return super.visitClass(tree, nothing);
    }

    @Override
    public Void visitMethod(MethodTree tree, Void nothing) {
        LineMap lines = unit.getLineMap();
        long first = lines.getLineNumber(trees.getSourcePositions().getStartPosition(unit, tree));
        long last = lines.getLineNumber(trees.getSourcePositions().getEndPosition(unit, tree));
        due.holds("rule 11: " + tree.getName() + " has at most sixty lines", last - first < 60);
        due.holds("rule 11: " + tree.getName() + " has at most seven parameters", tree.getParameters().size() <= 7);
        calls.putIfAbsent(trees.getElement(getCurrentPath()), new HashSet<>());
        compared.clear();
        return super.visitMethod(tree, nothing);
    }

    @Override
    public Void visitMethodInvocation(MethodInvocationTree tree, Void nothing) {
        ExecutableElement called = (ExecutableElement) trees.getElement(getCurrentPath());
        // StringBuilder inherits some of its methods from a hidden class.
        String owner = called.getEnclosingElement().toString().replace("AbstractStringBuilder", "StringBuilder");
        boolean isConstructor = called.getSimpleName().contentEquals("<init>");
        if (!isConstructor) {
            due.holds("rule 4, " + at(tree) + ": " + owner + "." + called,
                    owner.startsWith("RegattaTimes") || LIBRARY.contains(owner + "." + called));
            calls.computeIfAbsent(method(), m -> new HashSet<>()).add(called);
        }
        if (called.getSimpleName().contentEquals("charAt")) {
            looksAt("an index", false, tree.getArguments().get(0));
        }
        return super.visitMethodInvocation(tree, nothing);
    }

    @Override
    public Void visitNewClass(NewClassTree tree, Void nothing) {
        due.holds("rule 12, " + at(tree) + ": objects are made in constructors alone", isInConstructor());
        calls.computeIfAbsent(method(), m -> new HashSet<>()).add(trees.getElement(getCurrentPath()));
        return super.visitNewClass(tree, nothing);
    }

    @Override
    public Void visitNewArray(NewArrayTree tree, Void nothing) {
        due.holds("rule 12, " + at(tree) + ": arrays are made in constructors alone",
                isInConstructor() || tree.getInitializers() != null && method() == null);
        return super.visitNewArray(tree, nothing);
    }

    @Override
    public Void visitBinary(BinaryTree tree, Void nothing) {
        boolean isText = tree.getKind() == Tree.Kind.PLUS
                && trees.getTypeMirror(getCurrentPath()).toString().equals("java.lang.String");
        due.holds("rule 10, " + at(tree) + ": no text is joined by +", !isText);
        if (DIVISIONS.contains(tree.getKind())) {
            looksAt("a divisor", true, tree.getRightOperand());
        }
        if (COMPARISONS.contains(tree.getKind())) {
            compared.add(bare(tree.getLeftOperand()).toString());
            compared.add(bare(tree.getRightOperand()).toString());
        }
        return super.visitBinary(tree, nothing);
    }

    @Override
    public Void visitCompoundAssignment(CompoundAssignmentTree tree, Void nothing) {
        if (DIVISIONS.contains(tree.getKind())) {
            looksAt("a divisor", true, tree.getExpression());
        }
        return super.visitCompoundAssignment(tree, nothing);
    }

    @Override
    public Void visitArrayAccess(ArrayAccessTree tree, Void nothing) {
        looksAt("an index", false, tree.getIndex());
        return super.visitArrayAccess(tree, nothing);
    }

    @Override
    public Void visitMemberSelect(MemberSelectTree tree, Void nothing) {
        due.holds("rule 7, " + at(tree) + ": what stands in an array is looked at before it is used",
                tree.getExpression().getKind() != Tree.Kind.ARRAY_ACCESS);
        return super.visitMemberSelect(tree, nothing);
    }

    /** That it was compared earlier in the same method, or may be a number other than 0 and is one. */
    private void looksAt(String what, boolean mayBeNumber, ExpressionTree used) {
        ExpressionTree bare = bare(used);
        boolean isNumber = bare instanceof LiteralTree && !((LiteralTree) bare).getValue().equals(0);
        due.holds("rule 7, " + at(used) + ": " + what + " is looked at before it is used: " + bare,
                mayBeNumber && isNumber || compared.contains(bare.toString()));
    }

    private static ExpressionTree bare(ExpressionTree tree) {
        if (tree instanceof ParenthesizedTree) {
            return bare(((ParenthesizedTree) tree).getExpression());
        }
        return tree instanceof TypeCastTree ? bare(((TypeCastTree) tree).getExpression()) : tree;
    }
}
