import com.sun.source.tree.ClassTree;
import com.sun.source.tree.CompilationUnitTree;
import com.sun.source.tree.MethodInvocationTree;
import com.sun.source.tree.MethodTree;
import com.sun.source.tree.NewClassTree;
import com.sun.source.util.JavacTask;
import com.sun.source.util.TreePathScanner;
import com.sun.source.util.Trees;
import java.io.IOException;
import java.nio.file.Path;
import java.util.ArrayDeque;
import java.util.ArrayList;
import java.util.Deque;
import java.util.List;
import java.util.Map;
import java.util.Set;
import java.util.TreeMap;
import java.util.TreeSet;
import javax.lang.model.element.Element;
import javax.lang.model.element.Modifier;
import javax.tools.JavaCompiler;
import javax.tools.StandardJavaFileManager;
import javax.tools.ToolProvider;

/**
 * Rules 8 and 11 of LANGUAGE.md: which methods call which, as the compiler sees it. Methods that call one another count
 * as one level, a method of the library as one, too.
 */
public final class DepthTest {
    private static final int MOST = 8;

    private static final Map<String, Set<String>> CALLS = new TreeMap<>();
    private static final Map<String, Boolean> IS_PRIVATE = new TreeMap<>();
    private static final Map<String, Set<String>> REACHED = new TreeMap<>();
    private static final Map<String, List<String>> LONGEST = new TreeMap<>();

    public static void main(String[] args) throws IOException {
        readCalls();
        Probe.due("calls were found", CALLS.get("StreamQueries.row").contains("StreamQueries.answer"), true);
        for (String method : List.copyOf(CALLS.keySet())) {
            REACHED.put(method, reachedFrom(method));
        }
        recursionIsPrivate();
        for (String method : CALLS.keySet()) {
            List<String> chain = longestFrom(method);
            Probe.due(chain + " is deep", chain.size() <= MOST, true);
        }
        Probe.end("DepthTest");
    }

    private static void readCalls() throws IOException {
        JavaCompiler compiler = ToolProvider.getSystemJavaCompiler();
        try (StandardJavaFileManager files = compiler.getStandardFileManager(null, null, null)) {
            JavacTask task = (JavacTask) compiler.getTask(null, files, null, List.of("-proc:none"), null,
                files.getJavaFileObjects(Path.of("src/main/java/StreamQueries.java")));
            Iterable<? extends CompilationUnitTree> units = task.parse();
            task.analyze();
            for (CompilationUnitTree unit : units) {
                new Reader(Trees.instance(task)).scan(unit, null);
            }
        }
    }

    /** What stands outside of methods is called by the constructor. */
    private static final class Reader extends TreePathScanner<Void, Void> {
        private final Trees trees;
        private final Deque<String> within = new ArrayDeque<>();

        Reader(Trees trees) {
            this.trees = trees;
        }

        private static String name(Element method) {
            return method.getEnclosingElement().getSimpleName() + "." + method.getSimpleName();
        }

        private void call() {
            Element called = trees.getElement(getCurrentPath());
            if (called != null && !within.isEmpty()) {
                CALLS.computeIfAbsent(within.peek(), m -> new TreeSet<>()).add(name(called));
            }
        }

        @Override
        public Void visitClass(ClassTree tree, Void none) {
            within.push(tree.getSimpleName() + ".<init>");
            super.visitClass(tree, none);
            within.pop();
            return none;
        }

        @Override
        public Void visitMethod(MethodTree tree, Void none) {
            String name = name(trees.getElement(getCurrentPath()));
            CALLS.computeIfAbsent(name, m -> new TreeSet<>());
            IS_PRIVATE.put(name, tree.getModifiers().getFlags().contains(Modifier.PRIVATE));
            within.push(name);
            super.visitMethod(tree, none);
            within.pop();
            return none;
        }

        @Override
        public Void visitMethodInvocation(MethodInvocationTree tree, Void none) {
            call();
            return super.visitMethodInvocation(tree, none);
        }

        @Override
        public Void visitNewClass(NewClassTree tree, Void none) {
            call();
            return super.visitNewClass(tree, none);
        }
    }

    private static Set<String> callsOf(String method) {
        return CALLS.getOrDefault(method, Set.of());
    }

    private static Set<String> reachedFrom(String method) {
        Set<String> reached = new TreeSet<>();
        Deque<String> open = new ArrayDeque<>(callsOf(method));
        while (!open.isEmpty()) {
            String next = open.pop();
            if (reached.add(next)) {
                open.addAll(callsOf(next));
            }
        }
        return reached;
    }

    private static boolean callOneAnother(String one, String other) {
        return one.equals(other) || REACHED.getOrDefault(one, Set.of()).contains(other)
            && REACHED.getOrDefault(other, Set.of()).contains(one);
    }

    private static void recursionIsPrivate() {
        for (String method : CALLS.keySet()) {
            if (REACHED.get(method).contains(method)) {
                Probe.due(method + " calls itself and is private", IS_PRIVATE.getOrDefault(method, false), true);
            }
        }
    }

    private static List<String> longestFrom(String method) {
        List<String> known = LONGEST.get(method);
        if (known != null) {
            return known;
        }
        List<String> longest = List.of();
        for (String member : CALLS.keySet()) {
            for (String called : callOneAnother(method, member) ? callsOf(member) : Set.<String>of()) {
                List<String> chain = callOneAnother(method, called) ? List.of() : longestFrom(called);
                longest = chain.size() > longest.size() ? chain : longest;
            }
        }
        List<String> whole = new ArrayList<>(List.of(method));
        whole.addAll(longest);
        LONGEST.put(method, whole);
        return whole;
    }
}
