import com.sun.source.tree.CompilationUnitTree;
import com.sun.source.tree.MethodInvocationTree;
import com.sun.source.tree.MethodTree;
import com.sun.source.tree.NewClassTree;
import com.sun.source.util.JavacTask;
import com.sun.source.util.TreePathScanner;
import com.sun.source.util.Trees;
import java.io.IOException;
import java.util.Map;
import java.util.Set;
import java.util.TreeMap;
import java.util.TreeSet;
import javax.lang.model.element.Element;

/** Which method of the program calls which, its own ones and the library's, as the compiler understands it. */
final class CallGraph extends TreePathScanner<Void, Void> {
    private static final int CIRCLE = 1000;

    private final Trees trees;
    private final Map<String, Set<String>> calls = new TreeMap<>();
    private final Map<String, Integer> depths = new TreeMap<>();
    private final Set<String> library = new TreeSet<>();
    private String caller = "";

    CallGraph(JavacTask task) throws IOException {
        trees = Trees.instance(task);
        Iterable<? extends CompilationUnitTree> units = task.parse();
        task.analyze();
        for (CompilationUnitTree unit : units) {
            scan(unit, null);
        }
    }

    /** The library's methods that are called, each with its class. */
    Set<String> library() {
        return library;
    }

    /** How many calls of own methods stand open at once, this one counted; CIRCLE or more, if there is recursion. */
    int deepest(String method) {
        if (depths.containsKey(method)) {
            return depths.get(method);
        }
        // Who is met again while still open has called himself, by whatever way.
        depths.put(method, CIRCLE);
        int below = 0;
        for (String called : calls.getOrDefault(method, Set.of())) {
            below = Math.max(below, deepest(called));
        }
        depths.put(method, below + 1);
        return below + 1;
    }

    Set<String> methods() {
        return calls.keySet();
    }

    private static String nameOf(Element method) {
        return method.getEnclosingElement() + "." + method;
    }

    @Override
    public Void visitMethod(MethodTree tree, Void v) {
        caller = nameOf(trees.getElement(getCurrentPath()));
        calls.putIfAbsent(caller, new TreeSet<>());
        return super.visitMethod(tree, v);
    }

    @Override
    public Void visitMethodInvocation(MethodInvocationTree tree, Void v) {
        called(trees.getElement(getCurrentPath()));
        return super.visitMethodInvocation(tree, v);
    }

    @Override
    public Void visitNewClass(NewClassTree tree, Void v) {
        called(trees.getElement(getCurrentPath()));
        return super.visitNewClass(tree, v);
    }

    private void called(Element method) {
        String name = nameOf(method);
        if (name.startsWith("CoatTraces")) {
            calls.get(caller).add(name);
        } else {
            library.add(method.getEnclosingElement() + "." + method.getSimpleName());
        }
    }
}
