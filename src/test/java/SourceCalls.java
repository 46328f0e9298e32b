import com.sun.source.tree.MethodInvocationTree;
import com.sun.source.tree.MethodTree;
import com.sun.source.tree.NewClassTree;
import com.sun.source.util.JavacTask;
import com.sun.source.util.TreePath;
import com.sun.source.util.TreePathScanner;
import com.sun.source.util.Trees;
import java.io.IOException;
import java.nio.file.Path;
import java.util.HashMap;
import java.util.HashSet;
import java.util.Map;
import java.util.Set;
import java.util.TreeMap;
import java.util.TreeSet;
import javax.lang.model.element.Element;
import javax.tools.JavaCompiler;
import javax.tools.StandardJavaFileManager;
import javax.tools.ToolProvider;

/** Who calls whom in the class, and what of the library it uses, as the compiler itself understands its text. */
final class SourceCalls extends TreePathScanner<Void, Void> {
    /** Of each method of the class those of the class that it calls. */
    final Map<String, Set<String>> own = new TreeMap<>();
    final Set<String> library = new TreeSet<>();
    private final Map<String, Set<String>> reached = new HashMap<>();
    private final Map<String, Integer> depths = new HashMap<>();
    private Trees trees;
    private String inside = "";

    static SourceCalls of(Path source) throws IOException {
        SourceCalls calls = new SourceCalls();
        JavaCompiler compiler = ToolProvider.getSystemJavaCompiler();
        try (StandardJavaFileManager files = compiler.getStandardFileManager(null, null, null)) {
            JavacTask task = (JavacTask) compiler.getTask(null, files, null, null, null, files.getJavaFileObjects(source));
            calls.trees = Trees.instance(task);
            var units = task.parse();
            task.analyze();
            units.forEach(unit -> calls.scan(unit, null));
        }
        return calls;
    }

    private static String nameOf(Element method) {
        return method.getEnclosingElement() + "." + method;
    }

    private void uses(Element method) {
        if (method == null) {
            return;
        }
        String name = nameOf(method);
        if (name.startsWith("BellHerd")) {
            own.computeIfAbsent(inside, m -> new TreeSet<>()).add(name);
        } else if (!name.equals("java.lang.Object.Object()")) {
            library.add(method.getEnclosingElement() + "." + method.getSimpleName());
        }
    }

    @Override
    public Void visitMethod(MethodTree tree, Void none) {
        inside = nameOf(trees.getElement(getCurrentPath()));
        own.computeIfAbsent(inside, m -> new TreeSet<>());
        return super.visitMethod(tree, none);
    }

    @Override
    public Void visitMethodInvocation(MethodInvocationTree tree, Void none) {
        uses(trees.getElement(new TreePath(getCurrentPath(), tree.getMethodSelect())));
        return super.visitMethodInvocation(tree, none);
    }

    @Override
    public Void visitNewClass(NewClassTree tree, Void none) {
        uses(trees.getElement(getCurrentPath()));
        return super.visitNewClass(tree, none);
    }

    private Set<String> reachedFrom(String method) {
        Set<String> all = reached.get(method);
        if (all == null) {
            all = new HashSet<>();
            reach(method, all);
            reached.put(method, all);
        }
        return all;
    }

    private void reach(String method, Set<String> all) {
        for (String next : own.getOrDefault(method, Set.of())) {
            if (all.add(next)) {
                reach(next, all);
            }
        }
    }

    boolean isRecursive(String method) {
        return reachedFrom(method).contains(method);
    }

    private boolean callOneAnother(String a, String b) {
        return a.equals(b) || reachedFrom(a).contains(b) && reachedFrom(b).contains(a);
    }

    /** How many methods stand open at once from this one on, those that call one another counted once. */
    int depth(String method) {
        Integer known = depths.get(method);
        if (known != null) {
            return known;
        }
        int deepest = 0;
        for (String one : own.keySet()) {
            if (callOneAnother(one, method)) {
                for (String next : own.get(one)) {
                    deepest = callOneAnother(next, method) ? deepest : Math.max(deepest, depth(next));
                }
            }
        }
        depths.put(method, deepest + 1);
        return deepest + 1;
    }
}
