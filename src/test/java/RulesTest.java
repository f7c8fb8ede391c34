import com.sun.source.tree.ClassTree;
import com.sun.source.tree.CompilationUnitTree;
import com.sun.source.tree.MethodInvocationTree;
import com.sun.source.tree.MethodTree;
import com.sun.source.tree.NewClassTree;
import com.sun.source.tree.Tree;
import com.sun.source.util.JavacTask;
import com.sun.source.util.SourcePositions;
import com.sun.source.util.TreePathScanner;
import com.sun.source.util.Trees;
import java.io.IOException;
import java.nio.file.Path;
import java.util.ArrayDeque;
import java.util.Deque;
import java.util.List;
import java.util.Map;
import java.util.Set;
import java.util.TreeMap;
import java.util.TreeSet;
import javax.lang.model.element.Element;
import javax.lang.model.element.ElementKind;
import javax.lang.model.element.Modifier;
import javax.tools.JavaCompiler;
import javax.tools.StandardJavaFileManager;
import javax.tools.ToolProvider;

/** Rules 5, 8 and 11 of LANGUAGE.md, where the source must be read as a tree to see whether they hold. */
public final class RulesTest extends TreePathScanner<Void, Void> {
    private static final int MOST_DEEP = 8;
    private static final int MOST_LINES = 60;
    private static final Path SOURCE = Path.of("src/main/java/HighFall.java");

    private final Trees trees;
    private final CompilationUnitTree unit;
    /** Each method of the file, with the methods and constructors that it calls, the library's too. */
    private final Map<String, Set<String>> calls = new TreeMap<>();
    private final Set<String> face = new TreeSet<>();
    private String inside = null;

    private RulesTest(Trees trees, CompilationUnitTree unit) {
        this.trees = trees;
        this.unit = unit;
    }

    private static String nameOf(Element method) {
        return method.getEnclosingElement().getSimpleName() + "." + method.getSimpleName();
    }

    private Element current() {
        return trees.getElement(getCurrentPath());
    }

    @Override
    public Void visitMethod(MethodTree method, Void nothing) {
        Element element = current();
        inside = nameOf(element);
        Due.due("rule 11: a second method with the name " + inside, calls.containsKey(inside), false);
        calls.put(inside, new TreeSet<>());
        if (element.getModifiers().contains(Modifier.PUBLIC) && element.getKind() == ElementKind.METHOD) face.add(inside);
        int lines = linesOf(method);
        Due.due("rule 11: " + inside + " has " + lines + " lines", lines <= MOST_LINES, true);
        super.visitMethod(method, nothing);
        inside = null;
        return null;
    }

    private int linesOf(Tree tree) {
        SourcePositions positions = trees.getSourcePositions();
        long first = unit.getLineMap().getLineNumber(positions.getStartPosition(unit, tree));
        long last = unit.getLineMap().getLineNumber(positions.getEndPosition(unit, tree));
        return (int) (last - first + 1);
    }

    @Override
    public Void visitMethodInvocation(MethodInvocationTree call, Void nothing) {
        addCall(current());
        return super.visitMethodInvocation(call, nothing);
    }

    @Override
    public Void visitNewClass(NewClassTree made, Void nothing) {
        addCall(current());
        return super.visitNewClass(made, nothing);
    }

    private void addCall(Element called) {
        // what stands in a field's initialiser is run by the constructor
        if (inside != null && called != null) calls.get(inside).add(nameOf(called));
    }

    @Override
    public Void visitClass(ClassTree one, Void nothing) {
        for (Tree member : one.getMembers()) {
            Due.due("rule 5: a block among the members of " + one.getSimpleName(), member.getKind() == Tree.Kind.BLOCK, false);
        }
        return super.visitClass(one, nothing);
    }

    /** How many calls stand open at once at most, this one among them; a call that comes back to itself is told. */
    private int depthOf(String method, Deque<String> open) {
        Due.due("rule 8: a call comes back to " + method + " through " + open, open.contains(method), false);
        if (open.contains(method)) return 0;
        open.push(method);
        int deepest = 0;
        for (String called : calls.getOrDefault(method, Set.of())) deepest = Math.max(deepest, depthOf(called, open));
        open.pop();
        return deepest + 1;
    }

    private void depths() {
        for (String method : face) {
            int depth = depthOf(method, new ArrayDeque<>());
            Due.due("rule 11: calls go " + depth + " deep from " + method, depth <= MOST_DEEP, true);
        }
        Due.due("calls of the face that were looked at", face.size(), 30);
    }

    public static void main(String[] args) throws IOException {
        JavaCompiler compiler = ToolProvider.getSystemJavaCompiler();
        try (StandardJavaFileManager files = compiler.getStandardFileManager(null, null, null)) {
            JavacTask task = (JavacTask) compiler.getTask(null, files, null, List.of("-proc:none"), null,
                files.getJavaFileObjects(SOURCE));
            CompilationUnitTree unit = task.parse().iterator().next();
            task.analyze();
            RulesTest rules = new RulesTest(Trees.instance(task), unit);
            rules.scan(unit, null);
            rules.depths();
        }
        Due.end();
    }
}
