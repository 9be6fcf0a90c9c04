import com.sun.source.tree.ClassTree;
import com.sun.source.tree.CompilationUnitTree;
import com.sun.source.tree.ForLoopTree;
import com.sun.source.tree.MethodInvocationTree;
import com.sun.source.tree.MethodTree;
import com.sun.source.tree.NewClassTree;
import com.sun.source.tree.ThrowTree;
import com.sun.source.tree.Tree;
import com.sun.source.tree.VariableTree;
import com.sun.source.util.JavacTask;
import com.sun.source.util.TreePathScanner;
import com.sun.source.util.Trees;
import java.io.File;
import java.io.IOException;
import java.util.EnumSet;
import java.util.HashSet;
import java.util.LinkedHashMap;
import java.util.LinkedHashSet;
import java.util.List;
import java.util.Map;
import java.util.Set;
import javax.lang.model.element.Element;
import javax.lang.model.element.ElementKind;
import javax.lang.model.element.Modifier;
import javax.tools.JavaCompiler;
import javax.tools.StandardJavaFileManager;
import javax.tools.ToolProvider;

/** The rules of LANGUAGE.md, as far as a look at the program's source tells. */
public final class LanguageTest extends TreePathScanner<Void, Void> {
    private static final Check CHECK = new Check("LanguageTest");
    private static final File PROGRAM = new File("src/main/java/TagCoder.java");
    private static final int MOST_PARAMETERS = 7;
    private static final int MOST_LINES = 60;
    private static final int MOST_CLASSES = 12;
    private static final int MOST_FIELDS = 20;
    private static final int DEEPEST_CALLS = 8;

    // Some of these a rule allows under conditions, and the program has no need of them: whoever
    // takes one off the list puts a look at its conditions in its place.
    private static final Set<Tree.Kind> AVOIDED = EnumSet.of(Tree.Kind.IMPORT, Tree.Kind.PACKAGE,
        Tree.Kind.LAMBDA_EXPRESSION, Tree.Kind.MEMBER_REFERENCE, Tree.Kind.TRY, Tree.Kind.SYNCHRONIZED,
        Tree.Kind.ASSERT, Tree.Kind.WHILE_LOOP, Tree.Kind.DO_WHILE_LOOP, Tree.Kind.DIVIDE, Tree.Kind.REMAINDER,
        Tree.Kind.DIVIDE_ASSIGNMENT, Tree.Kind.REMAINDER_ASSIGNMENT, Tree.Kind.INSTANCE_OF, Tree.Kind.STRING_LITERAL,
        Tree.Kind.DOUBLE_LITERAL, Tree.Kind.FLOAT_LITERAL);
    private static final Set<String> LIBRARY = Set.of("java.lang.Math.max", "java.lang.Math.min",
        "java.lang.System.arraycopy");
    private static final Set<String> THROWN = Set.of("java.lang.IndexOutOfBoundsException",
        "java.lang.IllegalArgumentException");

    private final CompilationUnitTree unit;
    private final Trees trees;
    private final Map<Element, Set<Element>> calls = new LinkedHashMap<>();
    private Element around = null;
    private int classes = 0;

    private LanguageTest(CompilationUnitTree unit, Trees trees) {
        this.unit = unit;
        this.trees = trees;
    }

    public static void main(String[] args) throws IOException {
        JavaCompiler compiler = ToolProvider.getSystemJavaCompiler();
        try (StandardJavaFileManager files = compiler.getStandardFileManager(null, null, null)) {
            JavacTask task = (JavacTask) compiler.getTask(null, files, null, List.of("-proc:none"), null,
                files.getJavaFileObjects(PROGRAM));
            CompilationUnitTree unit = task.parse().iterator().next();
            task.analyze();
            new LanguageTest(unit, Trees.instance(task)).look();
        }
        CHECK.finish();
    }

    private void look() {
        scan(unit, null);
        CHECK.due("classes beside one another", unit.getTypeDecls().size(), 1);
        CHECK.due("rule 11: " + classes + " classes are few", classes <= MOST_CLASSES, true);
        for (Element method : calls.keySet()) {
            int deep = deepest(method, new HashSet<>());
            CHECK.due("rule 11: calls of " + method + ", " + deep + " deep, are shallow", deep <= DEEPEST_CALLS, true);
        }
    }

    /** How many calls stand open at once, but for recursion: no method counts twice. */
    private int deepest(Element method, Set<Element> open) {
        if (!open.add(method)) {
            return 0;
        }
        int most = 0;
        for (Element called : calls.getOrDefault(method, Set.of())) {
            most = Math.max(most, deepest(called, open));
        }
        open.remove(method);
        return most + 1;
    }

    private Element element() {
        return trees.getElement(getCurrentPath());
    }

    private boolean isOwn(Element element) {
        return trees.getTree(element) != null;
    }

    private long line(long position) {
        return unit.getLineMap().getLineNumber(position);
    }

    private String at(Tree tree) {
        return " in line " + line(trees.getSourcePositions().getStartPosition(unit, tree));
    }

    private void noteCall(Element called) {
        if (around != null && isOwn(called)) {
            calls.computeIfAbsent(around, method -> new LinkedHashSet<>()).add(called);
        }
    }

    @Override
    public Void scan(Tree tree, Void nothing) {
        if (tree != null && AVOIDED.contains(tree.getKind())) {
            CHECK.due(tree.getKind() + at(tree), true, false);
        }
        return super.scan(tree, nothing);
    }

    @Override
    public Void visitClass(ClassTree tree, Void nothing) {
        classes++;
        String name = element().toString();
        boolean isNested = element().getEnclosingElement().getKind() == ElementKind.CLASS;
        Set<Modifier> modifiers = element().getModifiers();
        CHECK.due("rule 2: " + name + " is static inside", modifiers.contains(Modifier.STATIC), isNested);
        CHECK.due("rule 1: " + name + " is public outside", modifiers.contains(Modifier.PUBLIC), !isNested);
        int fields = 0;
        for (Tree member : tree.getMembers()) {
            CHECK.due("rule 5: initialiser block in " + name, member.getKind() == Tree.Kind.BLOCK, false);
            if (member instanceof VariableTree field && !field.getModifiers().getFlags().contains(Modifier.STATIC)) {
                fields++;
            }
        }
        CHECK.due("rule 11: " + fields + " fields of " + name + " are few", fields <= MOST_FIELDS, true);
        return super.visitClass(tree, nothing);
    }

    @Override
    public Void visitVariable(VariableTree tree, Void nothing) {
        Set<Modifier> modifiers = tree.getModifiers().getFlags();
        if (modifiers.contains(Modifier.STATIC)) {
            CHECK.due("rule 5: " + tree.getName() + " is final", modifiers.contains(Modifier.FINAL), true);
            CHECK.due("rule 5: type of " + tree.getName(), tree.getType().toString(), "int");
        }
        return super.visitVariable(tree, nothing);
    }

    @Override
    public Void visitMethod(MethodTree tree, Void nothing) {
        long first = line(trees.getSourcePositions().getStartPosition(unit, tree));
        long last = line(trees.getSourcePositions().getEndPosition(unit, tree));
        CHECK.due("rule 11: " + tree.getName() + " is short", last - first < MOST_LINES, true);
        CHECK.due("rule 11: parameters of " + tree.getName() + " are few",
            tree.getParameters().size() <= MOST_PARAMETERS, true);
        around = element();
        super.visitMethod(tree, nothing);
        around = null;
        return nothing;
    }

    @Override
    public Void visitMethodInvocation(MethodInvocationTree tree, Void nothing) {
        Element called = element();
        noteCall(called);
        if (called.getKind() == ElementKind.METHOD && !isOwn(called)) {
            String name = called.getEnclosingElement() + "." + called.getSimpleName();
            CHECK.due("rule 4: " + name + at(tree) + " is listed", LIBRARY.contains(name), true);
        }
        return super.visitMethodInvocation(tree, nothing);
    }

    @Override
    public Void visitNewClass(NewClassTree tree, Void nothing) {
        Element made = element().getEnclosingElement();
        noteCall(element());
        boolean isThrown = getCurrentPath().getParentPath().getLeaf() instanceof ThrowTree;
        CHECK.due("rules 3 and 6: new " + made + at(tree) + " is allowed",
            isThrown ? THROWN.contains(made.toString()) : isOwn(made), true);
        return super.visitNewClass(tree, nothing);
    }

    @Override
    public Void visitThrow(ThrowTree tree, Void nothing) {
        CHECK.due("rule 6: throw new" + at(tree), tree.getExpression() instanceof NewClassTree, true);
        CHECK.due("rule 6: throw outside a constructor" + at(tree),
            around != null && around.getKind() == ElementKind.METHOD, true);
        return super.visitThrow(tree, nothing);
    }

    @Override
    public Void visitForLoop(ForLoopTree tree, Void nothing) {
        boolean counts = tree.getCondition() != null && tree.getUpdate().size() == 1;
        CHECK.due("rule 9: a counter" + at(tree), counts, true);
        return super.visitForLoop(tree, nothing);
    }
}
