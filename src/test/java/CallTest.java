import com.sun.source.tree.ClassTree;
import com.sun.source.tree.CompilationUnitTree;
import com.sun.source.tree.MethodInvocationTree;
import com.sun.source.tree.MethodTree;
import com.sun.source.util.JavacTask;
import com.sun.source.util.TreePath;
import com.sun.source.util.TreePathScanner;
import com.sun.source.util.Trees;
import java.io.File;
import java.io.IOException;
import java.util.ArrayDeque;
import java.util.Deque;
import java.util.HashMap;
import java.util.List;
import java.util.Map;
import java.util.Set;
import java.util.TreeSet;
import javax.lang.model.element.Element;
import javax.tools.JavaCompiler;
import javax.tools.StandardJavaFileManager;
import javax.tools.ToolProvider;

/** The rules of LANGUAGE.md about who calls whom, as the compiler sees it. */
final class CallTest {
    private static final String OWN = "AskewLetters";
    private static final int DEEPEST = 8;
    private static final String LIBRARY = "java\\.lang\\.(Math|Integer|Long)\\.(compare|max|min|abs|bitCount|floorDiv|floorMod)"
        + "|java\\.lang\\.System\\.arraycopy|java\\.util\\.Arrays\\.(copyOf|copyOfRange|fill)";

    /** What each method of the class calls, by full names. */
    private static final Map<String, Set<String>> CALLS = new HashMap<>();

    private CallTest() {
    }

    public static void main(String[] args) throws IOException {
        readCalls();
        Due.run(CallTest.class);
    }

    private static void readCalls() throws IOException {
        JavaCompiler compiler = ToolProvider.getSystemJavaCompiler();
        try (StandardJavaFileManager files = compiler.getStandardFileManager(null, null, null)) {
            JavacTask task = (JavacTask) compiler.getTask(null, files, null, List.of("-proc:none"), null,
                files.getJavaFileObjects(new File("src/main/java/AskewLetters.java")));
            Iterable<? extends CompilationUnitTree> units = task.parse();
            task.analyze();
            for (CompilationUnitTree unit : units) {
                new Reader(Trees.instance(task)).scan(unit, null);
            }
        }
    }

    private static final class Reader extends TreePathScanner<Void, Void> {
        private final Trees trees;
        private String caller = "";

        Reader(Trees trees) {
            this.trees = trees;
        }

        private String nameAt(TreePath path) {
            Element e = trees.getElement(path);
            return e.getEnclosingElement() + "." + e.getSimpleName();
        }

        @Override
        public Void visitClass(ClassTree tree, Void nothing) {
            String before = caller;
            caller = "";
            super.visitClass(tree, nothing);
            caller = before;
            return null;
        }

        @Override
        public Void visitMethod(MethodTree tree, Void nothing) {
            caller = nameAt(getCurrentPath());
            CALLS.putIfAbsent(caller, new TreeSet<>());
            super.visitMethod(tree, nothing);
            caller = "";
            return null;
        }

        @Override
        public Void visitMethodInvocation(MethodInvocationTree tree, Void nothing) {
            String called = nameAt(new TreePath(getCurrentPath(), tree.getMethodSelect()));
            // A constructor that javac writes itself calls that of Object: no line of the class does.
            if (!called.equals("java.lang.Object.<init>")) {
                CALLS.computeIfAbsent(caller, c -> new TreeSet<>()).add(called);
            }
            return super.visitMethodInvocation(tree, nothing);
        }
    }

    static void rule04_noOtherMethodOfTheLibraryIsCalled() {
        int seen = 0;
        for (Map.Entry<String, Set<String>> each : CALLS.entrySet()) {
            for (String called : each.getValue()) {
                if (!called.startsWith(OWN)) {
                    seen++;
                    Due.holds(called + " in " + each.getKey() + " is of the library", called.matches(LIBRARY));
                }
            }
        }
        Due.holds("calls of the library were seen", seen > 10);
    }

    static void rule08_noMethodIsReachedByItself() {
        Due.holds("methods were seen", CALLS.size() > 100);
        for (String method : CALLS.keySet()) {
            Set<String> reached = new TreeSet<>();
            Deque<String> next = new ArrayDeque<>(CALLS.get(method));
            while (!next.isEmpty()) {
                String one = next.pop();
                if (reached.add(one)) {
                    next.addAll(CALLS.getOrDefault(one, Set.of()));
                }
            }
            Due.holds(method + " does not reach itself", !reached.contains(method));
        }
    }

    static void rule11_callsGoAtMostEightDeep() {
        for (String method : CALLS.keySet()) {
            Due.holds(method + " goes at most " + DEEPEST + " deep", depthOf(method, 0) <= DEEPEST);
        }
    }

    /** A guard on the depth, as this may be asked of a class whose methods call one another in a ring. */
    private static int depthOf(String method, int above) {
        int deepest = 0;
        for (String called : CALLS.getOrDefault(method, Set.of())) {
            deepest = Math.max(deepest, above > DEEPEST ? 1 : depthOf(called, above + 1));
        }
        return deepest + 1;
    }
}
