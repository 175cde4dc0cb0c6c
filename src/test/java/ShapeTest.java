import com.sun.source.tree.ClassTree;
import com.sun.source.tree.CompilationUnitTree;
import com.sun.source.tree.MethodInvocationTree;
import com.sun.source.tree.MethodTree;
import com.sun.source.tree.NewClassTree;
import com.sun.source.tree.Tree;
import com.sun.source.tree.VariableTree;
import com.sun.source.util.JavacTask;
import com.sun.source.util.SourcePositions;
import com.sun.source.util.TreePathScanner;
import com.sun.source.util.Trees;
import java.io.IOException;
import java.nio.file.Path;
import java.util.ArrayDeque;
import java.util.Deque;
import java.util.Map;
import java.util.Set;
import java.util.TreeMap;
import java.util.TreeSet;
import javax.lang.model.element.Element;
import javax.lang.model.element.Modifier;
import javax.tools.JavaCompiler;
import javax.tools.StandardJavaFileManager;
import javax.tools.ToolProvider;

/** The limits of LANGUAGE.md that only a compiler can count: rules 1, 4, 8 and 11. */
final class ShapeTest extends TreePathScanner<Void, Void> {
    private static final Checks CHECKS = new Checks();
    private static final int MOST_LINES = 60;
    private static final int MOST_PARAMETERS = 7;
    private static final int MOST_DEEP = 8;
    private static final int MOST_CLASSES = 12;
    private static final int MOST_FIELDS = 20;

    private final Trees trees;
    private final SourcePositions positions;
    private final Map<String, Set<String>> calls = new TreeMap<>();
    private final Deque<String> owners = new ArrayDeque<>();
    private int classes;

    private ShapeTest(Trees trees) {
        this.trees = trees;
        this.positions = trees.getSourcePositions();
    }

    public static void main(String[] args) throws IOException {
        CHECKS.begin("LANGUAGE.md");
        JavaCompiler compiler = ToolProvider.getSystemJavaCompiler();
        try (StandardJavaFileManager files = compiler.getStandardFileManager(null, null, null)) {
            JavacTask task = (JavacTask) compiler.getTask(null, files, null, null, null,
                    files.getJavaFileObjects(Path.of("src/main/java/WallpaperGroups.java")));
            Iterable<? extends CompilationUnitTree> units = task.parse();
            task.analyze();
            ShapeTest shape = new ShapeTest(Trees.instance(task));
            shape.scan(units, null);
            shape.conclude();
        }
        CHECKS.end();
    }

    private void conclude() {
        CHECKS.holds("classes: " + classes, classes > 0 && classes <= MOST_CLASSES);
        CHECKS.holds("methods were seen", calls.size() > 30);
        for (String method : calls.keySet()) {
            int depth = depth(method, new ArrayDeque<>());
            CHECKS.holds(method + " is " + depth + " calls deep", depth <= MOST_DEEP);
            for (String called : calls.get(method)) {
                CHECKS.holds(method + " calls " + called, isAllowed(called));
            }
        }
    }

    /** Own methods, and of the library what makes nothing and never throws. */
    private static boolean isAllowed(String called) {
        return called.startsWith("WallpaperGroups") || called.equals("java.lang.Object.<init>")
                || called.startsWith("java.lang.Math.") && !called.endsWith("Exact");
    }

    /** The calls that stand open at once when the deepest one runs, the library's among them. */
    private int depth(String method, Deque<String> open) {
        CHECKS.holds("no recursion: " + method, !open.contains(method));
        if (open.contains(method)) {
            return 0;
        }
        open.push(method);
        int deepest = 0;
        for (String called : calls.getOrDefault(method, Set.of())) {
            deepest = Math.max(deepest, depth(called, open));
        }
        open.pop();
        return deepest + 1;
    }

    @Override
    public Void visitClass(ClassTree tree, Void nothing) {
        classes++;
        int fields = 0;
        for (Tree member : tree.getMembers()) {
            if (member instanceof VariableTree field && !field.getModifiers().getFlags().contains(Modifier.STATIC)) {
                fields++;
            }
        }
        CHECKS.holds(tree.getSimpleName() + " has " + fields + " fields", fields <= MOST_FIELDS);
        owners.push(nameOf(trees.getElement(getCurrentPath())) + ".<init>");
        super.visitClass(tree, nothing);
        owners.pop();
        return null;
    }

    @Override
    public Void visitMethod(MethodTree tree, Void nothing) {
        CompilationUnitTree unit = getCurrentPath().getCompilationUnit();
        String name = nameOf(trees.getElement(getCurrentPath()));
        long end = positions.getEndPosition(unit, tree);
        if (end >= 0) {
            long lines = unit.getLineMap().getLineNumber(end)
                    - unit.getLineMap().getLineNumber(positions.getStartPosition(unit, tree)) + 1;
            CHECKS.holds(name + " has " + lines + " lines", lines <= MOST_LINES);
        }
        CHECKS.holds(name + " has few parameters", tree.getParameters().size() <= MOST_PARAMETERS);
        owners.push(name);
        calls.computeIfAbsent(name, key -> new TreeSet<>());
        super.visitMethod(tree, nothing);
        owners.pop();
        return null;
    }

    @Override
    public Void visitMethodInvocation(MethodInvocationTree tree, Void nothing) {
        noteCall(trees.getElement(getCurrentPath()));
        return super.visitMethodInvocation(tree, nothing);
    }

    @Override
    public Void visitNewClass(NewClassTree tree, Void nothing) {
        noteCall(trees.getElement(getCurrentPath()));
        return super.visitNewClass(tree, nothing);
    }

    private void noteCall(Element called) {
        calls.computeIfAbsent(owners.peek(), key -> new TreeSet<>()).add(nameOf(called));
    }

    private static String nameOf(Element element) {
        if (element.getKind().isClass() || element.getKind().isInterface()) {
            return element.toString();
        }
        return element.getEnclosingElement() + "." + element.getSimpleName();
    }
}
