import com.sun.source.tree.CompilationUnitTree;
import com.sun.source.tree.MethodInvocationTree;
import com.sun.source.tree.MethodTree;
import com.sun.source.tree.NewArrayTree;
import com.sun.source.tree.NewClassTree;
import com.sun.source.util.JavacTask;
import com.sun.source.util.TreePathScanner;
import com.sun.source.util.Trees;
import java.io.IOException;
import java.util.ArrayList;
import java.util.HashMap;
import java.util.LinkedHashMap;
import java.util.LinkedHashSet;
import java.util.List;
import java.util.Map;
import java.util.Set;
import java.util.TreeSet;
import javax.lang.model.element.Element;
import javax.lang.model.element.ElementKind;
import javax.lang.model.element.ExecutableElement;
import javax.lang.model.element.TypeElement;
import javax.lang.model.util.Elements;
import javax.tools.JavaCompiler;
import javax.tools.StandardJavaFileManager;
import javax.tools.ToolProvider;

/** Who calls whom in the program, as the compiler reads it: LANGUAGE.md's rules 4, 7, 8, 11 and 12. */
public final class CallsTest {
    private static final int DEEPEST = 8;
    private static final Set<String> LIBRARY = Set.of(
        "java.lang.Math.max", "java.lang.Math.min", "java.lang.Math.abs", "java.lang.Math.floorMod", "java.lang.Math.floorDiv",
        "java.lang.Integer.bitCount", "java.lang.Long.bitCount", "java.lang.String.length", "java.lang.String.charAt",
        "java.lang.System.arraycopy");

    private static int wrong = 0;

    private CallsTest() {
    }

    public static void main(String[] args) throws IOException {
        JavaCompiler compiler = ToolProvider.getSystemJavaCompiler();
        if (compiler == null) {
            System.out.println("no compiler here");
            System.exit(1);
            return;
        }
        String place = System.getProperty("carpets.source", "src/main/java/CarpetRealms.java");
        try (StandardJavaFileManager files = compiler.getStandardFileManager(null, null, null)) {
            JavacTask task = (JavacTask) compiler.getTask(null, files, null, List.of("-proc:none"), null,
                files.getJavaFileObjects(place));
            List<CompilationUnitTree> units = new ArrayList<>();
            task.parse().forEach(units::add);
            task.analyze();
            look(units, Trees.instance(task), task.getElements());
        }
        System.out.println(wrong == 0 ? "the calls are as due" : wrong + " faults of calls");
        if (wrong != 0) {
            System.exit(1);
        }
    }

    private static void due(String what, boolean fine) {
        if (!fine) {
            wrong++;
            System.out.println(what);
        }
    }

    private static void look(List<CompilationUnitTree> units, Trees trees, Elements elements) {
        Calls calls = new Calls(trees);
        for (CompilationUnitTree unit : units) {
            calls.scan(unit, null);
        }
        due("methods that were found: " + calls.bodies.size(), calls.bodies.size() > 80);
        for (String name : calls.outside) {
            due("a call of the library that isn't listed: " + name, LIBRARY.contains(name));
        }
        for (String made : calls.made) {
            due("made outside of a constructor: " + made, false);
        }
        calls.addOverrides(elements);
        Map<ExecutableElement, Integer> depths = new HashMap<>();
        int deepest = 0;
        for (ExecutableElement method : calls.bodies.keySet()) {
            deepest = Math.max(deepest, depth(method, calls.bodies, depths, new ArrayList<>()));
        }
        due("calls that go " + deepest + " deep", deepest <= DEEPEST);
        System.out.println(calls.bodies.size() + " methods, calls go " + deepest + " deep");
    }

    /** How many calls stand open at once, with this one; a method that calls itself is told as a fault. */
    private static int depth(ExecutableElement method, Map<ExecutableElement, Set<ExecutableElement>> bodies,
            Map<ExecutableElement, Integer> depths, List<ExecutableElement> open) {
        if (depths.containsKey(method)) {
            return depths.get(method);
        }
        if (open.contains(method)) {
            due("recursion: " + open + " " + method, false);
            return 0;
        }
        open.add(method);
        int below = 0;
        for (ExecutableElement callee : bodies.getOrDefault(method, Set.of())) {
            below = Math.max(below, depth(callee, bodies, depths, open));
        }
        open.remove(open.size() - 1);
        depths.put(method, below + 1);
        return below + 1;
    }

    /** Each method and constructor with what it calls; calls of the library; and what is made where it may not be. */
    static final class Calls extends TreePathScanner<Void, Void> {
        final Map<ExecutableElement, Set<ExecutableElement>> bodies = new LinkedHashMap<>();
        final Set<String> outside = new TreeSet<>();
        final List<String> made = new ArrayList<>();
        private final Trees trees;
        private final Set<ExecutableElement> bySuper = new LinkedHashSet<>();
        private ExecutableElement within = null;

        Calls(Trees trees) {
            this.trees = trees;
        }

        @Override
        public Void visitMethod(MethodTree tree, Void none) {
            ExecutableElement before = within;
            within = (ExecutableElement) trees.getElement(getCurrentPath());
            bodies.putIfAbsent(within, new LinkedHashSet<>());
            super.visitMethod(tree, none);
            within = before;
            return null;
        }

        @Override
        public Void visitMethodInvocation(MethodInvocationTree tree, Void none) {
            add(trees.getElement(getCurrentPath()), tree.getMethodSelect().toString().startsWith("super."));
            return super.visitMethodInvocation(tree, none);
        }

        @Override
        public Void visitNewClass(NewClassTree tree, Void none) {
            add(trees.getElement(getCurrentPath()), true);
            makes(tree.toString());
            return super.visitNewClass(tree, none);
        }

        @Override
        public Void visitNewArray(NewArrayTree tree, Void none) {
            makes(tree.toString());
            return super.visitNewArray(tree, none);
        }

        private void makes(String what) {
            if (within == null || within.getKind() != ElementKind.CONSTRUCTOR) {
                made.add(what);
            }
        }

        private void add(Element callee, boolean exactly) {
            if (!(callee instanceof ExecutableElement) || within == null) {
                return;
            }
            ExecutableElement method = (ExecutableElement) callee;
            String owner = ((TypeElement) method.getEnclosingElement()).getQualifiedName().toString();
            if (!owner.startsWith("CarpetRealms")) {
                if (method.getKind() != ElementKind.CONSTRUCTOR) {
                    outside.add(owner + "." + method.getSimpleName());
                }
                return;
            }
            bodies.get(within).add(method);
            if (exactly) {
                bySuper.add(method);
            }
        }

        /** A call may come to each method that overrides the one it names, unless it goes up by super. */
        void addOverrides(Elements elements) {
            for (Map.Entry<ExecutableElement, Set<ExecutableElement>> body : bodies.entrySet()) {
                boolean overrides = overridesAny(body.getKey(), elements);
                Set<ExecutableElement> more = new LinkedHashSet<>();
                for (ExecutableElement callee : body.getValue()) {
                    if (overrides && bySuper.contains(callee)) {
                        continue;
                    }
                    for (ExecutableElement other : bodies.keySet()) {
                        if (elements.overrides(other, callee, (TypeElement) other.getEnclosingElement())) {
                            more.add(other);
                        }
                    }
                }
                body.getValue().addAll(more);
            }
        }

        private boolean overridesAny(ExecutableElement method, Elements elements) {
            for (ExecutableElement other : bodies.keySet()) {
                if (elements.overrides(method, other, (TypeElement) method.getEnclosingElement())) {
                    return true;
                }
            }
            return false;
        }
    }
}
