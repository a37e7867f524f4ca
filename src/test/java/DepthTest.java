import com.sun.source.tree.CompilationUnitTree;
import com.sun.source.tree.MethodInvocationTree;
import com.sun.source.tree.MethodTree;
import com.sun.source.tree.NewClassTree;
import com.sun.source.util.JavacTask;
import com.sun.source.util.TreePathScanner;
import com.sun.source.util.Trees;
import java.io.File;
import java.io.IOException;
import java.util.HashMap;
import java.util.HashSet;
import java.util.LinkedHashSet;
import java.util.Map;
import java.util.Set;
import javax.lang.model.element.Element;
import javax.tools.JavaCompiler;
import javax.tools.StandardJavaFileManager;
import javax.tools.ToolProvider;

/**
 * LANGUAGE.md, rule 11: who calls whom is asked of the compiler itself; no method calls itself, by whatever way (the
 * class needs no recursion), and no chain of calls is deeper than eight, a library function at its end counted too.
 */
final class DepthTest extends TreePathScanner<Void, String> {
    private static final File SOURCE = new File("src/main/java/OneLevelStore.java");
    private static final int DEEPEST = 8;
    private static final Due DUE = new Due();

    private final Trees trees;
    private final Map<String, Set<String>> calls = new HashMap<>();
    private final Map<String, Integer> depths = new HashMap<>();

    private DepthTest(Trees trees) {
        this.trees = trees;
    }

    public static void main(String[] args) throws IOException {
        JavaCompiler compiler = ToolProvider.getSystemJavaCompiler();
        try (StandardJavaFileManager files = compiler.getStandardFileManager(null, null, null)) {
            JavacTask task = (JavacTask) compiler.getTask(null, files, null, null, null,
                files.getJavaFileObjects(SOURCE));
            DepthTest test = new DepthTest(Trees.instance(task));
            Iterable<? extends CompilationUnitTree> units = task.parse();
            task.analyze();
            test.scan(units, "");
            test.look();
        }
        DUE.end();
    }

    @Override
    public Void visitMethod(MethodTree method, String within) {
        String name = nameOf(trees.getElement(getCurrentPath()));
        calls.put(name, new LinkedHashSet<>());
        return super.visitMethod(method, name);
    }

    @Override
    public Void visitMethodInvocation(MethodInvocationTree call, String within) {
        note(within);
        return super.visitMethodInvocation(call, within);
    }

    @Override
    public Void visitNewClass(NewClassTree made, String within) {
        note(within);
        return super.visitNewClass(made, within);
    }

    private void note(String within) {
        // What a field's initialiser makes has no method around it; the constructors of those are looked at themselves.
        if (calls.containsKey(within)) {
            calls.get(within).add(nameOf(trees.getElement(getCurrentPath())));
        }
    }

    private static String nameOf(Element method) {
        return method.getEnclosingElement() + "." + method;
    }

    private void look() {
        DUE.yes("the calls of run are seen", calls.containsKey("OneLevelStore.run(int)")
            && calls.get("OneLevelStore.run(int)").contains("OneLevelStore.tick()"));
        for (String method : calls.keySet()) {
            int depth = depth(method, new HashSet<>());
            DUE.yes(method + " goes " + depth + " deep", depth <= DEEPEST);
        }
    }

    private int depth(String method, Set<String> open) {
        if (depths.containsKey(method)) {
            return depths.get(method);
        }
        if (!open.add(method)) {
            DUE.no(method + " calls itself", true);
            return 1;
        }
        int deepest = 0;
        for (String called : calls.getOrDefault(method, Set.of())) {
            deepest = Math.max(deepest, depth(called, open));
        }
        open.remove(method);
        depths.put(method, deepest + 1);
        return deepest + 1;
    }
}
