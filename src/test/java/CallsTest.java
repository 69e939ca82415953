import com.sun.source.tree.CompilationUnitTree;
import com.sun.source.tree.MethodInvocationTree;
import com.sun.source.tree.MethodTree;
import com.sun.source.tree.NewClassTree;
import com.sun.source.util.JavacTask;
import com.sun.source.util.TreePathScanner;
import com.sun.source.util.Trees;
import java.io.IOException;
import java.nio.file.Path;
import java.util.ArrayList;
import java.util.LinkedHashMap;
import java.util.LinkedHashSet;
import java.util.List;
import java.util.Map;
import java.util.Set;
import javax.lang.model.element.Element;
import javax.lang.model.element.Modifier;
import javax.tools.JavaCompiler;
import javax.tools.StandardJavaFileManager;
import javax.tools.ToolProvider;

/**
 * Who calls whom in the class, by the compiler: calls that are no recursion go at most eight deep, what is called in a
 * ring counting as one, and few calls stand open at once in the deepest run.
 */
public final class CallsTest {
    private static final Path FILE = Path.of("src/main/java/GlobalSpan.java");

    private final Map<Element, Set<Element>> calls = new LinkedHashMap<>();
    private final Map<Element, Set<Element>> reached = new LinkedHashMap<>();

    private CallsTest() {
    }

    public static void main(String[] args) throws Exception {
        CallsTest test = new CallsTest();
        test.read();
        test.check();
        openCalls();
        Check.finish("CallsTest");
    }

    private void read() throws IOException {
        JavaCompiler compiler = ToolProvider.getSystemJavaCompiler();
        try (StandardJavaFileManager files = compiler.getStandardFileManager(null, null, null)) {
            JavacTask task = (JavacTask) compiler.getTask(null, files, null, List.of("-proc:none"), null,
                files.getJavaFileObjects(FILE));
            Iterable<? extends CompilationUnitTree> units = task.parse();
            task.analyze();
            Trees trees = Trees.instance(task);
            for (CompilationUnitTree unit : units) {
                new Scanner(trees).scan(unit, null);
            }
        }
    }

    private final class Scanner extends TreePathScanner<Void, Element> {
        private final Trees trees;

        Scanner(Trees trees) {
            this.trees = trees;
        }

        @Override
        public Void visitMethod(MethodTree method, Element outer) {
            Element own = trees.getElement(getCurrentPath());
            calls.putIfAbsent(own, new LinkedHashSet<>());
            return super.visitMethod(method, own);
        }

        @Override
        public Void visitMethodInvocation(MethodInvocationTree call, Element caller) {
            if (caller != null) {
                calls.get(caller).add(trees.getElement(getCurrentPath()));
            }
            return super.visitMethodInvocation(call, caller);
        }

        @Override
        public Void visitNewClass(NewClassTree made, Element caller) {
            if (caller != null) {
                calls.get(caller).add(trees.getElement(getCurrentPath()));
            }
            return super.visitNewClass(made, caller);
        }
    }

    private Set<Element> reach(Element from) {
        Set<Element> known = reached.get(from);
        if (known != null) {
            return known;
        }
        Set<Element> found = new LinkedHashSet<>();
        List<Element> open = new ArrayList<>(calls.get(from));
        while (!open.isEmpty()) {
            Element next = open.remove(open.size() - 1);
            if (calls.containsKey(next) && found.add(next)) {
                open.addAll(calls.get(next));
            }
        }
        reached.put(from, found);
        return found;
    }

    private boolean isSameRing(Element one, Element other) {
        return one.equals(other) || reach(one).contains(other) && reach(other).contains(one);
    }

    /** The longest way of calls from a method on, the ring that it stands in counting as one. */
    private List<Element> longest(Element from, Map<Element, List<Element>> known) {
        List<Element> way = known.get(from);
        if (way != null) {
            return way;
        }
        List<Element> best = List.of();
        for (Element member : calls.keySet()) {
            if (!isSameRing(from, member)) {
                continue;
            }
            for (Element next : calls.get(member)) {
                if (calls.containsKey(next) && !isSameRing(from, next)) {
                    List<Element> rest = longest(next, known);
                    best = rest.size() > best.size() ? rest : best;
                }
            }
        }
        way = new ArrayList<>();
        way.add(from);
        way.addAll(best);
        known.put(from, way);
        return way;
    }

    private void check() {
        Map<Element, List<Element>> known = new LinkedHashMap<>();
        Set<Set<Element>> rings = new LinkedHashSet<>();
        for (Element method : calls.keySet()) {
            List<Element> way = longest(method, known);
            if (method.getModifiers().contains(Modifier.PUBLIC)) {
                Check.same("calls from " + method + " go at most eight deep: " + way, way.size() <= 8, true);
            }
            if (reach(method).contains(method)) {
                Set<Element> ring = new LinkedHashSet<>();
                for (Element other : calls.keySet()) {
                    if (isSameRing(method, other)) {
                        ring.add(other);
                    }
                }
                rings.add(ring);
            }
        }
        Check.same("one ring of calls: " + rings, rings.size(), 1);
        Check.same("methods are found", calls.size() > 150, true);
    }

    /** Ten frames of calls, each one at the bottom of the deepest expression that there can be. */
    private static Program deepest() {
        Program p = new Program();
        int one = p.number(1);
        int deep = p.call(0);
        int node = deep;
        for (int i = 0; i < 3; i++) {
            node = p.two('_', one, p.global(0, node));
        }
        p.line(0, p.set(p.local(0), node), p.one('q', one));
        p.line(1, p.trap(1), p.show(deep));
        return p;
    }

    private static void openCalls() throws InterruptedException {
        Program p = deepest();
        int job = p.x.job(1);
        Thread runner = new Thread(() -> {
            for (int i = 0; i < 400; i++) {
                p.x.run(job, 200);
            }
        });
        runner.start();
        int most = 0;
        while (runner.isAlive()) {
            most = Math.max(most, runner.getStackTrace().length);
        }
        runner.join();
        System.out.println("calls open at once, as seen: " + most);
        Check.same("at most 299 calls stand open, seen " + most, most < 300, true);
        Check.same("the deepest run ends by too many frames", p.x.error(job), 'f');
    }
}
