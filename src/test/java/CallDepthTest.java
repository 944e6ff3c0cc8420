import com.sun.source.tree.ClassTree;
import com.sun.source.tree.CompilationUnitTree;
import com.sun.source.tree.MethodInvocationTree;
import com.sun.source.tree.MethodTree;
import com.sun.source.tree.NewClassTree;
import com.sun.source.tree.VariableTree;
import com.sun.source.util.JavacTask;
import com.sun.source.util.TreePath;
import com.sun.source.util.TreePathScanner;
import com.sun.source.util.Trees;
import java.io.File;
import java.io.IOException;
import java.util.ArrayDeque;
import java.util.Deque;
import java.util.List;
import java.util.Map;
import java.util.Set;
import java.util.TreeMap;
import java.util.TreeSet;
import javax.lang.model.element.Element;
import javax.lang.model.element.ElementKind;
import javax.lang.model.element.ExecutableElement;
import javax.tools.JavaCompiler;
import javax.tools.StandardJavaFileManager;
import javax.tools.ToolProvider;

/** The class's own methods call one another at most eight deep, none calls itself, and a class has few fields. */
public final class CallDepthTest {
    private static final String SOURCE = "src/main/java/InputrowConsole.java";
    private static final int DEEPEST = 8;
    private static final int MOST_FIELDS = 20;

    private final Map<String, Set<String>> calls = new TreeMap<>();
    private final Map<String, Integer> fields = new TreeMap<>();
    private final Map<String, Integer> depths = new TreeMap<>();
    private final Deque<String> open = new ArrayDeque<>();

    public static void main(String[] args) throws IOException {
        CallDepthTest test = new CallDepthTest();
        test.read();
        Check.due("write() was found", test.calls.containsKey("InputrowConsole.write"), true);
        Check.due("write() calls settle()", test.calls.getOrDefault("InputrowConsole.write", Set.of()).contains("InputrowConsole.settle"), true);
        for (String method : List.copyOf(test.calls.keySet())) {
            int depth = test.depthOf(method);
            Check.due(method + " is " + depth + " deep, at most " + DEEPEST, depth <= DEEPEST, true);
        }
        test.fields.forEach((name, count) -> Check.due(name + " has " + count + " fields", count <= MOST_FIELDS, true));
        Check.end();
    }

    private void read() throws IOException {
        JavaCompiler compiler = ToolProvider.getSystemJavaCompiler();
        try (StandardJavaFileManager files = compiler.getStandardFileManager(null, null, null)) {
            JavacTask task = (JavacTask) compiler.getTask(null, files, null, List.of("-proc:none"), null,
                    files.getJavaFileObjects(new File(SOURCE)));
            Iterable<? extends CompilationUnitTree> units = task.parse();
            task.analyze();
            Scanner scanner = new Scanner(Trees.instance(task));
            for (CompilationUnitTree unit : units) {
                scanner.scan(unit, null);
            }
        }
    }

    private int depthOf(String method) {
        Integer known = depths.get(method);
        if (known != null) {
            return known;
        }
        if (open.contains(method)) {
            Check.due(method + " calls itself, perhaps by others", true, false);
            return 0;
        }
        open.push(method);
        int deepest = 0;
        for (String called : calls.getOrDefault(method, Set.of())) {
            deepest = Math.max(deepest, depthOf(called));
        }
        open.pop();
        depths.put(method, deepest + 1);
        return deepest + 1;
    }

    /** Notes which method calls which; what a field is made with belongs to its class's constructor. */
    private final class Scanner extends TreePathScanner<Void, Void> {
        private final Trees trees;
        private String inside = "";

        Scanner(Trees trees) {
            this.trees = trees;
        }

        @Override
        public Void visitClass(ClassTree tree, Void nothing) {
            String outside = inside;
            inside = trees.getElement(getCurrentPath()).getSimpleName() + ".<init>";
            super.visitClass(tree, nothing);
            inside = outside;
            return null;
        }

        @Override
        public Void visitMethod(MethodTree tree, Void nothing) {
            String outside = inside;
            inside = nameOf(trees.getElement(getCurrentPath()));
            calls.computeIfAbsent(inside, name -> new TreeSet<>());
            super.visitMethod(tree, nothing);
            inside = outside;
            return null;
        }

        @Override
        public Void visitVariable(VariableTree tree, Void nothing) {
            Element e = trees.getElement(getCurrentPath());
            if (e.getKind() == ElementKind.FIELD && e.getModifiers().stream().noneMatch(m -> m.toString().equals("static"))) {
                fields.merge(e.getEnclosingElement().getSimpleName().toString(), 1, Integer::sum);
            }
            return super.visitVariable(tree, nothing);
        }

        @Override
        public Void visitMethodInvocation(MethodInvocationTree tree, Void nothing) {
            note(trees.getElement(new TreePath(getCurrentPath(), tree.getMethodSelect())));
            return super.visitMethodInvocation(tree, nothing);
        }

        @Override
        public Void visitNewClass(NewClassTree tree, Void nothing) {
            note(trees.getElement(getCurrentPath()));
            return super.visitNewClass(tree, nothing);
        }

        private void note(Element called) {
            if (called instanceof ExecutableElement && isOurs(called)) {
                calls.computeIfAbsent(inside, name -> new TreeSet<>()).add(nameOf(called));
            }
        }

        private boolean isOurs(Element e) {
            Element outermost = e;
            while (outermost.getEnclosingElement() != null && outermost.getEnclosingElement().getKind() != ElementKind.PACKAGE) {
                outermost = outermost.getEnclosingElement();
            }
            return outermost.getSimpleName().contentEquals("InputrowConsole");
        }

        private String nameOf(Element method) {
            return method.getEnclosingElement().getSimpleName() + "." + method.getSimpleName();
        }
    }
}
