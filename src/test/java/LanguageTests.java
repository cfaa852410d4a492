import com.sun.source.tree.AssertTree;
import com.sun.source.tree.BinaryTree;
import com.sun.source.tree.BlockTree;
import com.sun.source.tree.ClassTree;
import com.sun.source.tree.CompilationUnitTree;
import com.sun.source.tree.CompoundAssignmentTree;
import com.sun.source.tree.LambdaExpressionTree;
import com.sun.source.tree.MemberReferenceTree;
import com.sun.source.tree.MethodInvocationTree;
import com.sun.source.tree.MethodTree;
import com.sun.source.tree.NewClassTree;
import com.sun.source.tree.SynchronizedTree;
import com.sun.source.tree.ThrowTree;
import com.sun.source.tree.Tree;
import com.sun.source.tree.TryTree;
import com.sun.source.tree.VariableTree;
import com.sun.source.util.JavacTask;
import com.sun.source.util.TreePathScanner;
import com.sun.source.util.Trees;
import java.io.File;
import java.io.IOException;
import java.nio.charset.StandardCharsets;
import java.util.ArrayList;
import java.util.List;
import java.util.Map;
import java.util.Set;
import java.util.TreeMap;
import java.util.TreeSet;
import javax.lang.model.element.Element;
import javax.lang.model.element.Modifier;
import javax.lang.model.type.TypeMirror;
import javax.tools.JavaCompiler;
import javax.tools.StandardJavaFileManager;
import javax.tools.ToolProvider;

/**
 * What of ../shared/LANGUAGE.md can be seen from the class's own lines, by its rules' numbers (of rule 1 more is in
 * FaceTests). It is no proof that the rules are kept: what it finds breaks one.
 */
public final class LanguageTests extends TreePathScanner<Void, Void> {
    private static final String CLASS = "src/main/java/CharadePost.java";
    /** By class, the methods that rule 4 lists; of an empty list all are fine whose name does not end in Exact. */
    private static final Map<String, Set<String>> LIBRARY = Map.ofEntries(
        Map.entry("java.lang.String", Set.of("length", "charAt", "isEmpty", "equals", "indexOf", "substring", "toCharArray", "<init>")),
        Map.entry("java.lang.StringBuilder",
            Set.of("<init>", "append", "charAt", "setCharAt", "setLength", "deleteCharAt", "reverse", "length", "toString")),
        Map.entry("java.util.ArrayList", Set.of("<init>", "add", "get", "set", "remove", "size", "isEmpty", "clear")),
        Map.entry("java.util.List", Set.of("add", "get", "set", "remove", "size", "isEmpty", "clear", "of")),
        Map.entry("java.lang.Integer", Set.of()), Map.entry("java.lang.Long", Set.of()), Map.entry("java.lang.Math", Set.of()),
        Map.entry("java.util.Iterator", Set.of("hasNext", "next")), Map.entry("java.lang.Comparable", Set.of("compareTo")),
        Map.entry("java.lang.System", Set.of("arraycopy")), Map.entry("java.util.Arrays", Set.of("copyOf", "copyOfRange", "fill")),
        Map.entry("java.lang.Object", Set.of("<init>")), Map.entry("java.lang.Enum", Set.of("ordinal", "<init>")));
    private static final Set<String> THROWN = Set.of("IllegalStateException", "IllegalArgumentException", "IndexOutOfBoundsException",
        "ArithmeticException", "UnsupportedOperationException", "NoSuchElementException", "RuntimeException");
    /** "Some twelve", "some twenty", "some sixty" are taken with a little room. */
    private static final int MOST_CLASSES = 14, MOST_FIELDS = 24, MOST_LINES = 66, MOST_PARAMETERS = 7, MOST_DEEP = 8;

    private final Trees trees;
    private final CompilationUnitTree unit;
    /** By each method, those that it calls: all of the class's own. */
    private final Map<String, Set<String>> calls = new TreeMap<>();
    private String method = "";
    private int classes = 0;

    private LanguageTests(Trees trees, CompilationUnitTree unit) {
        this.trees = trees;
        this.unit = unit;
    }

    private static void hold(int rule, String what, boolean so) {
        Checks.due("rule " + rule, what, so ? 1 : 0, 1);
    }

    private void never(int rule, String what, Tree tree) {
        hold(rule, what + " at line " + lineOf(trees.getSourcePositions().getStartPosition(unit, tree)), false);
    }

    private long lineOf(long position) {
        return unit.getLineMap().getLineNumber(position);
    }

    private Element element() {
        return trees.getElement(getCurrentPath());
    }

    private static String nameOf(Element element) {
        return element.getEnclosingElement() + "." + element.getSimpleName();
    }

    private static boolean isOwn(Element element) {
        return nameOf(element).startsWith("CharadePost");
    }

    @Override
    public Void visitClass(ClassTree tree, Void nothing) {
        classes++;
        int fields = 0;
        for (Tree member : tree.getMembers()) {
            if (member instanceof VariableTree && !((VariableTree) member).getModifiers().getFlags().contains(Modifier.STATIC)) {
                fields++;
            }
            hold(5, "no static block in " + tree.getSimpleName(), !(member instanceof BlockTree) || !((BlockTree) member).isStatic());
        }
        hold(11, tree.getSimpleName() + " has " + fields + " fields", fields <= MOST_FIELDS);
        return super.visitClass(tree, nothing);
    }

    @Override
    public Void visitMethod(MethodTree tree, Void nothing) {
        method = nameOf(element());
        calls.putIfAbsent(method, new TreeSet<>());
        long from = lineOf(trees.getSourcePositions().getStartPosition(unit, tree));
        long lines = lineOf(trees.getSourcePositions().getEndPosition(unit, tree)) - from + 1;
        hold(11, method + " has " + lines + " lines", lines <= MOST_LINES);
        hold(11, method + " takes " + tree.getParameters().size(), tree.getParameters().size() <= MOST_PARAMETERS);
        return super.visitMethod(tree, nothing);
    }

    @Override
    public Void visitVariable(VariableTree tree, Void nothing) {
        if (tree.getModifiers().getFlags().contains(Modifier.STATIC)) {
            hold(5, tree.getName() + " is final", tree.getModifiers().getFlags().contains(Modifier.FINAL));
        }
        return super.visitVariable(tree, nothing);
    }

    private void called(Element element) {
        if (isOwn(element)) {
            calls.computeIfAbsent(method, key -> new TreeSet<>()).add(nameOf(element));
            return;
        }
        String owner = element.getEnclosingElement().toString().replaceAll("<.*", "");
        String name = element.getSimpleName().toString();
        Set<String> listed = LIBRARY.get(owner);
        boolean clone = name.equals("clone");
        hold(4, owner + "." + name, clone || listed != null && (listed.isEmpty() ? !name.endsWith("Exact") : listed.contains(name)));
    }

    @Override
    public Void visitMethodInvocation(MethodInvocationTree tree, Void nothing) {
        called(element());
        return super.visitMethodInvocation(tree, nothing);
    }

    @Override
    public Void visitNewClass(NewClassTree tree, Void nothing) {
        if (!THROWN.contains(tree.getIdentifier().toString())) {
            called(element());
        }
        return super.visitNewClass(tree, nothing);
    }

    private boolean isText(Tree tree) {
        TypeMirror type = trees.getTypeMirror(trees.getPath(unit, tree));
        return type != null && type.toString().equals("java.lang.String");
    }

    @Override
    public Void visitBinary(BinaryTree tree, Void nothing) {
        boolean joins = tree.getKind() == Tree.Kind.PLUS;
        hold(10, "texts are not joined by +", !joins || !isText(tree.getLeftOperand()) && !isText(tree.getRightOperand()));
        return super.visitBinary(tree, nothing);
    }

    @Override
    public Void visitCompoundAssignment(CompoundAssignmentTree tree, Void nothing) {
        hold(10, "texts are not joined by +=", !isText(tree.getVariable()));
        return super.visitCompoundAssignment(tree, nothing);
    }

    @Override
    public Void visitThrow(ThrowTree tree, Void nothing) {
        hold(6, tree + "", tree.getExpression() instanceof NewClassTree
            && THROWN.contains(((NewClassTree) tree.getExpression()).getIdentifier().toString()));
        return super.visitThrow(tree, nothing);
    }

    @Override
    public Void visitTry(TryTree tree, Void nothing) {
        hold(6, "try without finally and resources", tree.getFinallyBlock() == null && tree.getResources().isEmpty());
        return super.visitTry(tree, nothing);
    }

    @Override
    public Void visitAssert(AssertTree tree, Void nothing) {
        never(6, "assert", tree);
        return super.visitAssert(tree, nothing);
    }

    @Override
    public Void visitSynchronized(SynchronizedTree tree, Void nothing) {
        never(6, "synchronized", tree);
        return super.visitSynchronized(tree, nothing);
    }

    @Override
    public Void visitLambdaExpression(LambdaExpressionTree tree, Void nothing) {
        never(2, "a lambda", tree);
        return super.visitLambdaExpression(tree, nothing);
    }

    @Override
    public Void visitMemberReference(MemberReferenceTree tree, Void nothing) {
        never(2, "a method reference", tree);
        return super.visitMemberReference(tree, nothing);
    }

    /** How many calls stand open at most below a method, itself counted; what calls itself is rule 8's. */
    private int deep(String name, List<String> open) {
        if (open.contains(name)) {
            return 0;
        }
        open.add(name);
        int deepest = 0;
        for (String called : calls.getOrDefault(name, Set.of())) {
            deepest = Math.max(deepest, deep(called, open));
        }
        open.remove(name);
        return deepest + 1;
    }

    private void whole() {
        hold(11, classes + " classes", classes <= MOST_CLASSES);
        for (String name : calls.keySet()) {
            int deep = deep(name, new ArrayList<>());
            hold(11, name + " goes " + deep + " deep", deep <= MOST_DEEP);
        }
        hold(1, "no package", unit.getPackageName() == null);
        hold(1, "one class in the file", unit.getTypeDecls().size() == 1);
    }

    public static void main(String[] args) throws IOException {
        JavaCompiler compiler = ToolProvider.getSystemJavaCompiler();
        StandardJavaFileManager files = compiler.getStandardFileManager(null, null, StandardCharsets.UTF_8);
        JavacTask task = (JavacTask) compiler.getTask(null, files, null, List.of("-proc:none"), null, files.getJavaFileObjects(new File(CLASS)));
        for (CompilationUnitTree unit : task.parse()) {
            task.analyze();
            LanguageTests tests = new LanguageTests(Trees.instance(task), unit);
            tests.scan(unit, null);
            tests.whole();
        }
        Checks.finish("LanguageTests");
    }
}
