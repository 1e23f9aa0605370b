import com.sun.source.tree.CompilationUnitTree;
import com.sun.source.tree.MethodInvocationTree;
import com.sun.source.tree.MethodTree;
import com.sun.source.util.JavacTask;
import com.sun.source.util.TreePathScanner;
import com.sun.source.util.Trees;
import java.io.IOException;
import java.nio.file.Path;
import java.util.HashMap;
import java.util.LinkedHashSet;
import java.util.Map;
import java.util.Set;
import java.util.TreeMap;
import javax.lang.model.element.Element;
import javax.lang.model.element.Modifier;
import javax.tools.StandardJavaFileManager;
import javax.tools.ToolProvider;

/**
 * How deep the calls of the class go, the public one and those of the library counted. Methods that
 * call one another in a ring count as nothing, but what they call counts.
 */
final class CallDepth {
    private final Map<Element, Set<Element>> calls = new HashMap<>();
    private final Map<Element, Integer> depths = new HashMap<>();

    private CallDepth() {
    }

    /** For each public method of the file its depth. */
    static Map<String, Integer> ofPublic(Path file) throws IOException {
        CallDepth d = new CallDepth();
        d.read(file);
        Map<String, Integer> all = new TreeMap<>();
        for (Element e : d.calls.keySet()) {
            if (e.getModifiers().contains(Modifier.PUBLIC)) {
                all.put(e.getSimpleName().toString(), d.depth(e));
            }
        }
        return all;
    }

    private void read(Path file) throws IOException {
        try (StandardJavaFileManager files = ToolProvider.getSystemJavaCompiler()
                .getStandardFileManager(null, null, null)) {
            JavacTask task = (JavacTask) ToolProvider.getSystemJavaCompiler()
                    .getTask(null, files, null, null, null, files.getJavaFileObjects(file));
            CompilationUnitTree unit = task.parse().iterator().next();
            task.analyze();
            Trees trees = Trees.instance(task);
            new TreePathScanner<Void, Element>() {
                @Override
                public Void visitMethod(MethodTree method, Element outer) {
                    Element me = trees.getElement(getCurrentPath());
                    calls.put(me, new LinkedHashSet<>());
                    return super.visitMethod(method, me);
                }

                @Override
                public Void visitMethodInvocation(MethodInvocationTree call, Element me) {
                    if (me != null) {
                        calls.get(me).add(trees.getElement(getCurrentPath()));
                    }
                    return super.visitMethodInvocation(call, me);
                }
            }.scan(unit, null);
        }
    }

    private boolean reaches(Element from, Element to, Set<Element> seen) {
        for (Element next : calls.getOrDefault(from, Set.of())) {
            if (next.equals(to) || (seen.add(next) && reaches(next, to, seen))) {
                return true;
            }
        }
        return false;
    }

    private int depth(Element e) {
        if (depths.containsKey(e)) {
            return depths.get(e);
        }
        depths.put(e, 0);
        int most = 0;
        for (Element next : calls.getOrDefault(e, Set.of())) {
            most = Math.max(most, depth(next));
        }
        boolean isInRing = reaches(e, e, new LinkedHashSet<>());
        depths.put(e, most + (isInRing ? 0 : 1));
        return depths.get(e);
    }
}
