import com.sun.source.tree.ClassTree;
import com.sun.source.tree.CompilationUnitTree;
import com.sun.source.tree.ExpressionTree;
import com.sun.source.tree.ForLoopTree;
import com.sun.source.tree.MethodInvocationTree;
import com.sun.source.tree.MethodTree;
import com.sun.source.tree.NewArrayTree;
import com.sun.source.tree.NewClassTree;
import com.sun.source.tree.Tree;
import com.sun.source.tree.VariableTree;
import com.sun.source.util.JavacTask;
import com.sun.source.util.SourcePositions;
import com.sun.source.util.TreePath;
import com.sun.source.util.TreePathScanner;
import com.sun.source.util.Trees;
import java.io.IOException;
import java.nio.file.Files;
import java.nio.file.Path;
import java.util.HashMap;
import java.util.HashSet;
import java.util.LinkedHashSet;
import java.util.List;
import java.util.Map;
import java.util.Set;
import javax.lang.model.element.Element;
import javax.lang.model.element.ElementKind;
import javax.lang.model.element.Modifier;
import javax.tools.JavaCompiler;
import javax.tools.StandardJavaFileManager;
import javax.tools.ToolProvider;

/** What the text of the class shows of LANGUAGE.md: the rules' numbers stand before each check. */
public final class LanguageTest extends TreePathScanner<Void, Void> {
    private static final Path FILE = Path.of("src", "main", "java", "LinkPredictor.java");
    // Kinds of trees that rules 2, 6, 9 and 10 leave out, and those that the class does without.
    private static final Set<Tree.Kind> RULED_OUT = Set.of(
            Tree.Kind.LAMBDA_EXPRESSION, Tree.Kind.MEMBER_REFERENCE, Tree.Kind.THROW, Tree.Kind.TRY, Tree.Kind.CATCH,
            Tree.Kind.SYNCHRONIZED, Tree.Kind.ASSERT, Tree.Kind.IMPORT, Tree.Kind.PACKAGE, Tree.Kind.WHILE_LOOP,
            Tree.Kind.DO_WHILE_LOOP, Tree.Kind.DIVIDE_ASSIGNMENT, Tree.Kind.REMAINDER_ASSIGNMENT,
            Tree.Kind.STRING_LITERAL, Tree.Kind.NULL_LITERAL, Tree.Kind.TYPE_CAST, Tree.Kind.INSTANCE_OF);
    private static final Set<String> LIBRARY = Set.of("Math.min", "Integer.bitCount", "System.arraycopy");
    private static final Set<String> TYPES = Set.of("int", "int[]", "boolean", "void");
    private static final int PARAMETERS = 7;
    private static final int LINES = 60;
    private static final int DEPTH = 8;
    private static final int CLASSES = 12;
    private static final int FIELDS = 20;

    private final Checks checks = new Checks("LanguageTest");
    private final Map<Element, Set<Element>> calls = new HashMap<>();
    private final Set<String> ownTypes = new HashSet<>();
    private final Trees trees;
    private final CompilationUnitTree unit;
    private Element method;

    private LanguageTest(Trees trees, CompilationUnitTree unit) {
        this.trees = trees;
        this.unit = unit;
    }

    public static void main(String[] args) throws IOException {
        JavaCompiler compiler = ToolProvider.getSystemJavaCompiler();
        try (StandardJavaFileManager files = compiler.getStandardFileManager(null, null, null)) {
            JavacTask task = (JavacTask) compiler.getTask(null, files, null, List.of("-proc:none"), null,
                    files.getJavaFileObjects(FILE));
            CompilationUnitTree unit = task.parse().iterator().next();
            task.analyze();
            LanguageTest test = new LanguageTest(Trees.instance(task), unit);
            test.scan(new TreePath(unit), null);
            test.wholeFile();
            test.checks.end();
        }
    }

    private void wholeFile() throws IOException {
        checks.due("one class in the file", unit.getTypeDecls().size(), 1);
        checks.yes("11: at most twelve classes", ownTypes.size() <= CLASSES);
        checks.yes("4: signs are 1 to 127", Files.readString(FILE).chars().allMatch(sign -> sign >= 1 && sign <= 127));
        int deepest = 0;
        for (Element start : calls.keySet()) {
            deepest = Math.max(deepest, depthFrom(start, new HashSet<>()));
        }
        checks.yes("11: calls go eight deep at most, not " + deepest, deepest > 1 && deepest <= DEPTH);
    }

    /** How many calls stand open at once, each method but once: what recursion adds is not counted. */
    private int depthFrom(Element start, Set<Element> open) {
        int deepest = 0;
        open.add(start);
        for (Element called : calls.getOrDefault(start, Set.of())) {
            if (!open.contains(called)) {
                deepest = Math.max(deepest, depthFrom(called, open));
            }
        }
        open.remove(start);
        return 1 + deepest;
    }

    @Override
    public Void scan(Tree tree, Void nothing) {
        if (tree != null && RULED_OUT.contains(tree.getKind())) {
            checks.yes("2, 6, 9, 10: " + tree.getKind() + " in line " + line(tree, false), false);
        }
        return super.scan(tree, nothing);
    }

    @Override
    public Void visitClass(ClassTree tree, Void nothing) {
        Set<Modifier> modifiers = tree.getModifiers().getFlags();
        Tree.Kind outside = getCurrentPath().getParentPath().getLeaf().getKind();
        boolean outermost = outside == Tree.Kind.COMPILATION_UNIT;
        checks.yes("1, 2: class " + tree.getSimpleName(), modifiers.contains(Modifier.FINAL)
                && (outermost || outside == Tree.Kind.CLASS && modifiers.contains(Modifier.STATIC)));
        ownTypes.add(tree.getSimpleName().toString());
        int fields = 0;
        for (Tree part : tree.getMembers()) {
            checks.no("5: a static block", part.getKind() == Tree.Kind.BLOCK);
            fields += part instanceof VariableTree field && !isStatic(field) ? 1 : 0;
        }
        checks.yes("11: fields of " + tree.getSimpleName(), fields <= FIELDS);
        return super.visitClass(tree, nothing);
    }

    @Override
    public Void visitMethod(MethodTree tree, Void nothing) {
        Element before = method;
        method = trees.getElement(getCurrentPath());
        calls.putIfAbsent(method, new LinkedHashSet<>());
        checks.yes("11: parameters of " + tree.getName(), tree.getParameters().size() <= PARAMETERS);
        checks.yes("11: lines of " + tree.getName(), line(tree, true) - line(tree, false) < LINES);
        checks.due("6: " + tree.getName() + " throws", tree.getThrows().size(), 0);
        super.visitMethod(tree, nothing);
        method = before;
        return null;
    }

    @Override
    public Void visitVariable(VariableTree tree, Void nothing) {
        String type = String.valueOf(tree.getType());
        checks.yes("3: " + tree, TYPES.contains(type) || isOwnType(type.replace("[]", "")));
        if (isStatic(tree)) {
            checks.yes("5: " + tree, tree.getModifiers().getFlags().contains(Modifier.FINAL) && type.equals("int"));
        }
        return super.visitVariable(tree, nothing);
    }

    @Override
    public Void visitMethodInvocation(MethodInvocationTree tree, Void nothing) {
        Element called = trees.getElement(getCurrentPath());
        if (isOwnType(called.getEnclosingElement().getSimpleName().toString())) {
            calls.get(method).add(called);
        } else if (called.getKind() != ElementKind.CONSTRUCTOR) {
            String name = called.getEnclosingElement().getSimpleName() + "." + called.getSimpleName();
            checks.yes("4: " + name, LIBRARY.contains(name));
        }
        return super.visitMethodInvocation(tree, nothing);
    }

    @Override
    public Void visitNewClass(NewClassTree tree, Void nothing) {
        checks.yes("2: no anonymous class", tree.getClassBody() == null);
        checks.yes("4: " + tree, isOwnType(tree.getIdentifier().toString()));
        isMadeOnce(tree);
        return super.visitNewClass(tree, nothing);
    }

    @Override
    public Void visitNewArray(NewArrayTree tree, Void nothing) {
        isMadeOnce(tree);
        return super.visitNewArray(tree, nothing);
    }

    // Rule 12 lets other methods make objects too; this class does without, so that the room is never used up.
    private void isMadeOnce(Tree tree) {
        checks.yes("12: made by no call: " + tree, method == null || method.getKind() == ElementKind.CONSTRUCTOR);
    }

    @Override
    public Void visitForLoop(ForLoopTree tree, Void nothing) {
        ExpressionTree condition = tree.getCondition();
        checks.yes("9: an end in line " + line(tree, false), condition != null && tree.getUpdate().size() == 1
                && condition.toString().matches("(\\w+) < \\w+( && .*)?")
                && tree.getUpdate().get(0).toString().equals(condition.toString().split(" ")[0] + "++;"));
        return super.visitForLoop(tree, nothing);
    }

    private boolean isOwnType(String name) {
        for (Tree part : ((ClassTree) unit.getTypeDecls().get(0)).getMembers()) {
            if (part instanceof ClassTree inner && inner.getSimpleName().contentEquals(name)) {
                return true;
            }
        }
        return name.equals("LinkPredictor");
    }

    private static boolean isStatic(VariableTree tree) {
        return tree.getModifiers().getFlags().contains(Modifier.STATIC);
    }

    private long line(Tree tree, boolean last) {
        SourcePositions places = trees.getSourcePositions();
        long place = last ? places.getEndPosition(unit, tree) : places.getStartPosition(unit, tree);
        return unit.getLineMap().getLineNumber(Math.max(place, 0));
    }
}
