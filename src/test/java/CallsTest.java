import com.sun.source.tree.ClassTree;
import com.sun.source.tree.CompilationUnitTree;
import com.sun.source.tree.MethodInvocationTree;
import com.sun.source.tree.MethodTree;
import com.sun.source.util.JavacTask;
import com.sun.source.util.TreePathScanner;
import com.sun.source.util.Trees;
import java.io.File;
import java.util.List;
import java.util.Map;
import java.util.Set;
import java.util.TreeMap;
import java.util.TreeSet;
import javax.lang.model.element.Element;
import javax.tools.JavaCompiler;
import javax.tools.StandardJavaFileManager;
import javax.tools.ToolProvider;

/** Who calls whom in the class, held against the rules 4, 8 and 11 of LANGUAGE.md. */
public final class CallsTest extends CupChecks {
    private static final String SOURCE = "src/main/java/StolenCup.java";
    private static final int MOST_DEEP = 8;
    /** What the class uses of the library; rule 4 lists more that could be added here. */
    private static final Set<String> LIBRARY = Set.of("java.lang.String.indexOf", "java.lang.Math.min",
        "java.lang.Math.max", "java.lang.Integer.bitCount", "java.util.Arrays.fill", "java.lang.System.arraycopy");
    /** They carry how deep they are as an argument. */
    private static final Set<String> RECURSIVE = Set.of("StolenCup.LawReader.condition", "StolenCup.LawReader.part",
        "StolenCup.LawReader.piece", "StolenCup.LawReader.sum", "StolenCup.LawReader.product",
        "StolenCup.LawReader.factor");

    private static final Map<String, Set<String>> CALLS = new TreeMap<>();

    public static void main(String[] args) throws Exception {
        readCalls();
        begin("LANGUAGE.md");
        due("methods were found", CALLS.size() > 27, true);
        Set<String> recursive = new TreeSet<>();
        for (String method : CALLS.keySet()) {
            for (String called : CALLS.get(method)) {
                due("4: the call of " + called, CALLS.containsKey(called) || LIBRARY.contains(called), true);
            }
            if (!ringOf(method).isEmpty()) {
                recursive.add(method);
            }
        }
        due("8: what calls itself", recursive.toString(), new TreeSet<>(RECURSIVE).toString());
        for (String method : CALLS.keySet()) {
            int deep = depthOf(method);
            due("11: calls from " + method + " on go " + deep + " deep", deep <= MOST_DEEP, true);
        }
        end("calls keep to the rules");
    }

    private static void readCalls() throws Exception {
        JavaCompiler compiler = ToolProvider.getSystemJavaCompiler();
        try (StandardJavaFileManager files = compiler.getStandardFileManager(null, null, null)) {
            JavacTask task = (JavacTask) compiler.getTask(null, files, null, List.of("-proc:none"), null,
                files.getJavaFileObjects(new File(SOURCE)));
            Iterable<? extends CompilationUnitTree> units = task.parse();
            task.analyze();
            for (CompilationUnitTree unit : units) {
                new Scanner(Trees.instance(task)).scan(unit, null);
            }
        }
    }

    private static final class Scanner extends TreePathScanner<Void, Void> {
        private final Trees trees;
        private String method = "";

        Scanner(Trees theTrees) {
            trees = theTrees;
        }

        private String nameOf(Element element) {
            return element.getEnclosingElement() + "." + element.getSimpleName();
        }

        @Override
        public Void visitClass(ClassTree tree, Void nothing) {
            method = "";
            return super.visitClass(tree, nothing);
        }

        @Override
        public Void visitMethod(MethodTree tree, Void nothing) {
            method = nameOf(trees.getElement(getCurrentPath()));
            CALLS.computeIfAbsent(method, key -> new TreeSet<>());
            return super.visitMethod(tree, nothing);
        }

        @Override
        public Void visitMethodInvocation(MethodInvocationTree tree, Void nothing) {
            String called = nameOf(trees.getElement(getCurrentPath()));
            // What javac puts ahead of each constructor's own lines.
            if (!called.equals("java.lang.Object.<init>")) {
                CALLS.computeIfAbsent(method, key -> new TreeSet<>()).add(called);
            }
            return super.visitMethodInvocation(tree, nothing);
        }
    }

    private static Set<String> reachedFrom(String method) {
        Set<String> reached = new TreeSet<>();
        List<String> open = new java.util.ArrayList<>(CALLS.get(method));
        while (!open.isEmpty()) {
            String next = open.remove(open.size() - 1);
            if (reached.add(next)) {
                open.addAll(CALLS.getOrDefault(next, Set.of()));
            }
        }
        return reached;
    }

    /** How many methods of the class, but for those that call themselves, stand open at once. */
    private static int depthOf(String method) {
        Set<String> ring = ringOf(method);
        Set<String> next = new TreeSet<>(CALLS.get(method));
        ring.forEach(other -> next.addAll(CALLS.get(other)));
        next.removeAll(ring);
        int deepest = 0;
        for (String called : next) {
            if (CALLS.containsKey(called)) {
                deepest = Math.max(deepest, depthOf(called));
            }
        }
        return deepest + (ring.isEmpty() ? 1 : 0);
    }

    /** Those from which it comes back to the method; none if it does not call itself. */
    private static Set<String> ringOf(String method) {
        Set<String> ring = new TreeSet<>();
        for (String other : reachedFrom(method)) {
            if (CALLS.containsKey(other) && reachedFrom(other).contains(method)) {
                ring.add(other);
            }
        }
        return ring;
    }
}
