import com.sun.source.tree.ClassTree;
import com.sun.source.tree.CompilationUnitTree;
import com.sun.source.tree.MethodInvocationTree;
import com.sun.source.tree.MethodTree;
import com.sun.source.tree.NewArrayTree;
import com.sun.source.tree.NewClassTree;
import com.sun.source.tree.Tree;
import com.sun.source.tree.VariableTree;
import com.sun.source.util.JavacTask;
import com.sun.source.util.TreePath;
import com.sun.source.util.TreePathScanner;
import com.sun.source.util.Trees;
import java.io.File;
import java.io.IOException;
import java.util.EnumSet;
import java.util.List;
import java.util.Map;
import java.util.Set;
import java.util.TreeMap;
import java.util.TreeSet;
import javax.lang.model.element.Element;
import javax.lang.model.element.ElementKind;
import javax.lang.model.element.Modifier;
import javax.tools.JavaCompiler;
import javax.tools.StandardJavaFileManager;
import javax.tools.ToolProvider;

/** What of LANGUAGE.md can be read off the program as the compiler sees it. */
public final class LanguageTreeTest extends TreePathScanner<Void, Void> {
    private static final Check CHECK = new Check("LanguageTreeTest");
    private static final int DEEPEST = 8;
    private static final Set<Tree.Kind> NEVER = EnumSet.of(
        Tree.Kind.LAMBDA_EXPRESSION, Tree.Kind.MEMBER_REFERENCE, Tree.Kind.THROW, Tree.Kind.TRY,
        Tree.Kind.CATCH, Tree.Kind.ASSERT, Tree.Kind.SYNCHRONIZED);
    private static final Set<String> LIBRARY = Set.of(
        "Arrays.fill", "Arrays.copyOf", "Arrays.copyOfRange", "System.arraycopy", "Math.abs", "Math.max",
        "Math.min", "Math.floorDiv", "Math.floorMod", "Integer.compare", "Integer.bitCount", "Long.bitCount",
        "Integer.numberOfTrailingZeros", "Integer.numberOfLeadingZeros");

    private final Trees trees;
    private final Map<String, Set<String>> calls = new TreeMap<>();

    private LanguageTreeTest(Trees trees) {
        this.trees = trees;
    }

    public static void main(String[] args) throws IOException {
        JavaCompiler compiler = ToolProvider.getSystemJavaCompiler();
        try (StandardJavaFileManager files = compiler.getStandardFileManager(null, null, null)) {
            JavacTask task = (JavacTask) compiler.getTask(null, files, null, List.of("-proc:none"), null,
                files.getJavaFileObjects(new File("src/main/java/DragonJars.java")));
            Iterable<? extends CompilationUnitTree> units = task.parse();
            task.analyze();
            LanguageTreeTest test = new LanguageTreeTest(Trees.instance(task));
            for (CompilationUnitTree unit : units) {
                test.scan(new TreePath(unit), null);
            }
            test.callsEnd();
        }
        CHECK.finish();
    }

    @Override
    public Void scan(Tree tree, Void nothing) {
        if (tree != null) {
            CHECK.dueTrue("no " + tree.getKind() + ": " + tree, !NEVER.contains(tree.getKind()));
        }
        return super.scan(tree, nothing);
    }

    /** Rule 2: classes stand in classes, never in methods; rule 1: those inside are static. */
    @Override
    public Void visitClass(ClassTree tree, Void nothing) {
        Element self = trees.getElement(getCurrentPath());
        boolean outer = tree.getSimpleName().contentEquals("DragonJars");
        CHECK.dueTrue(tree.getSimpleName() + " is the class or a static one in it", outer
            || self.getEnclosingElement().getKind() == ElementKind.CLASS
                && self.getModifiers().contains(Modifier.STATIC));
        return super.visitClass(tree, nothing);
    }

    /** Rule 5: no static state. */
    @Override
    public Void visitVariable(VariableTree tree, Void nothing) {
        Set<Modifier> modifiers = tree.getModifiers().getFlags();
        if (modifiers.contains(Modifier.STATIC)) {
            CHECK.dueTrue(tree.getName() + " is final", modifiers.contains(Modifier.FINAL));
            CHECK.dueTrue(tree.getName() + " is a number", tree.getType().toString().matches("int|long"));
        }
        return super.visitVariable(tree, nothing);
    }

    /** All rows are made with the object: what a run of calls makes does not grow with its calls. */
    @Override
    public Void visitNewClass(NewClassTree tree, Void nothing) {
        CHECK.dueTrue(tree + " has no body of its own", tree.getClassBody() == null);
        CHECK.dueTrue(tree + " is made by a constructor", isMadeAtFirst());
        return super.visitNewClass(tree, nothing);
    }

    @Override
    public Void visitNewArray(NewArrayTree tree, Void nothing) {
        CHECK.dueTrue(tree + " is made by a constructor", isMadeAtFirst());
        return super.visitNewArray(tree, nothing);
    }

    private boolean isMadeAtFirst() {
        MethodTree in = methodAround();
        return in == null || in.getReturnType() == null;
    }

    private MethodTree methodAround() {
        for (TreePath path = getCurrentPath(); path != null; path = path.getParentPath()) {
            if (path.getLeaf() instanceof MethodTree method) {
                return method;
            }
        }
        return null;
    }

    /** Rule 11: at most seven parameters. */
    @Override
    public Void visitMethod(MethodTree tree, Void nothing) {
        CHECK.dueTrue(tree.getName() + " takes seven at most", tree.getParameters().size() <= 7);
        calls.computeIfAbsent(nameOf(trees.getElement(getCurrentPath())), key -> new TreeSet<>());
        return super.visitMethod(tree, nothing);
    }

    /** Rule 4: of the library only what is listed. */
    @Override
    public Void visitMethodInvocation(MethodInvocationTree tree, Void nothing) {
        Element called = trees.getElement(new TreePath(getCurrentPath(), tree.getMethodSelect()));
        MethodTree in = methodAround();
        if (called.getKind() != ElementKind.CONSTRUCTOR) {
            if (isOurs(called)) {
                String from = in == null ? "at first" : nameOf(trees.getElement(pathOf(in)));
                calls.computeIfAbsent(from, key -> new TreeSet<>()).add(nameOf(called));
            } else {
                String name = called.getEnclosingElement().getSimpleName() + "." + called.getSimpleName();
                CHECK.dueTrue(name + " may be used", LIBRARY.contains(name));
            }
        }
        return super.visitMethodInvocation(tree, nothing);
    }

    private TreePath pathOf(Tree tree) {
        return TreePath.getPath(getCurrentPath().getCompilationUnit(), tree);
    }

    private static boolean isOurs(Element called) {
        return called.getEnclosingElement().toString().startsWith("DragonJars");
    }

    private static String nameOf(Element method) {
        return method.getEnclosingElement() + "." + method;
    }

    /** Rules 8, 11: no method calls itself, by whatever way, and calls go at most eight deep. */
    private void callsEnd() {
        CHECK.dueTrue("the methods were found", calls.size() > 39);
        for (String method : calls.keySet()) {
            int depth = depthOf(method, DEEPEST + 1);
            CHECK.dueTrue(method + " goes " + depth + " deep", depth <= DEEPEST);
        }
    }

    private int depthOf(String method, int left) {
        int deepest = 0;
        if (left > 1) {
            for (String called : calls.getOrDefault(method, Set.of())) {
                deepest = Math.max(deepest, depthOf(called, left - 1));
            }
        }
        return deepest + 1;
    }
}
