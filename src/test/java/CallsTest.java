import com.sun.source.tree.MethodInvocationTree;
import com.sun.source.tree.MethodTree;
import com.sun.source.tree.NewClassTree;
import com.sun.source.tree.Tree;
import com.sun.source.util.JavacTask;
import com.sun.source.util.TreePathScanner;
import com.sun.source.util.Trees;
import java.nio.file.Path;
import java.util.ArrayList;
import java.util.LinkedHashMap;
import java.util.LinkedHashSet;
import java.util.List;
import java.util.Map;
import java.util.Set;
import javax.lang.model.element.Element;
import javax.tools.JavaCompiler;
import javax.tools.StandardJavaFileManager;
import javax.tools.ToolProvider;

/**
 * LANGUAGE.md, 4, 8 and 11: nothing of the library is called but what stands there, calls that are no recursion go at
 * most eight deep, and only two methods call themselves, each with the service as its depth. Runs in the project's
 * folder; the compiler itself tells who calls whom.
 */
public final class CallsTest {
    private static final Check CHECK = new Check("CallsTest");
    private static final int DEEPEST = 8;
    private static final Set<String> RECURSIVE = Set.of("BasketCap.Search.descend", "BasketCap.Search.countFrom");
    private static final Set<String> LIBRARY = Set.of("java.lang.Math.max", "java.lang.Math.min", "java.lang.Math.abs",
            "java.lang.String.length", "java.lang.String.charAt", "java.lang.System.arraycopy",
            "java.util.NoSuchElementException.<init>");
    private static final Map<String, Set<String>> CALLS = new LinkedHashMap<>();
    private static final Map<String, List<String>> CHAINS = new LinkedHashMap<>();

    public static void main(String[] args) throws Exception {
        readCalls(Path.of("src/main/java/BasketCap.java"));
        CHECK.due("methods were found", CALLS.size() > 100, true);
        for (String method : List.copyOf(CALLS.keySet())) {
            List<String> chain = chain(method, new ArrayList<>());
            CHECK.due("depth of " + chain, chain.size() <= DEEPEST, true);
            for (String called : CALLS.get(method)) {
                CHECK.due(method + " calls " + called, CALLS.containsKey(called) || LIBRARY.contains(called), true);
            }
        }
        CHECK.end();
    }

    private static void readCalls(Path file) throws Exception {
        JavaCompiler compiler = ToolProvider.getSystemJavaCompiler();
        try (StandardJavaFileManager files = compiler.getStandardFileManager(null, null, null)) {
            JavacTask task = (JavacTask) compiler.getTask(null, files, null, List.of("-proc:none"), null,
                    files.getJavaFileObjects(file));
            var units = task.parse();
            task.analyze();
            Trees trees = Trees.instance(task);
            units.forEach(unit -> new Callers(trees).scan(unit, null));
        }
    }

    /** The longest chain of calls from a method on; a call back into the chain must be one of the two known ones. */
    private static List<String> chain(String method, List<String> open) {
        if (CHAINS.containsKey(method)) {
            return CHAINS.get(method);
        }
        open.add(method);
        List<String> longest = List.of();
        for (String called : CALLS.getOrDefault(method, Set.of())) {
            if (open.contains(called)) {
                CHECK.due(method + " calls back " + called, called.equals(method) && RECURSIVE.contains(method), true);
                continue;
            }
            List<String> rest = chain(called, open);
            longest = rest.size() > longest.size() ? rest : longest;
        }
        open.remove(open.size() - 1);
        List<String> all = new ArrayList<>(List.of(method));
        all.addAll(longest);
        CHAINS.put(method, all);
        return all;
    }

    private static final class Callers extends TreePathScanner<Void, Void> {
        private final Trees trees;
        private String method = null;

        Callers(Trees trees) {
            this.trees = trees;
        }

        @Override
        public Void visitMethod(MethodTree tree, Void none) {
            method = nameHere();
            CALLS.put(method, new LinkedHashSet<>());
            super.visitMethod(tree, none);
            method = null;
            return null;
        }

        @Override
        public Void visitMethodInvocation(MethodInvocationTree tree, Void none) {
            note(tree);
            return super.visitMethodInvocation(tree, none);
        }

        @Override
        public Void visitNewClass(NewClassTree tree, Void none) {
            note(tree);
            return super.visitNewClass(tree, none);
        }

        private void note(Tree tree) {
            if (method != null && !tree.toString().equals("super()")) {
                CALLS.get(method).add(nameHere());
            }
        }

        private String nameHere() {
            Element e = trees.getElement(getCurrentPath());
            return e.getEnclosingElement() + "." + e.getSimpleName();
        }
    }
}
