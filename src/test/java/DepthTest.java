import com.sun.source.tree.CompilationUnitTree;
import com.sun.source.tree.MethodInvocationTree;
import com.sun.source.tree.MethodTree;
import com.sun.source.tree.NewClassTree;
import com.sun.source.tree.Tree;
import com.sun.source.util.JavacTask;
import com.sun.source.util.TreePath;
import com.sun.source.util.TreePathScanner;
import com.sun.source.util.Trees;
import java.io.File;
import java.io.IOException;
import java.util.ArrayList;
import java.util.HashMap;
import java.util.HashSet;
import java.util.List;
import java.util.Map;
import java.util.Set;
import javax.lang.model.element.Element;
import javax.tools.JavaCompiler;
import javax.tools.StandardJavaFileManager;
import javax.tools.ToolProvider;

/** LANGUAGE.md 8 and 11: no call calls itself, and calls go at most eight deep. */
public final class DepthTest {
    private static final int DEEPEST = 8;

    private final Map<Element, Set<Element>> calls = new HashMap<>();

    public static void main(String[] args) throws IOException {
        Check.promise("LANGUAGE.md 8, 11");
        String source = args.length == 1 ? args[0] : "src/main/java/StrikeDays.java";
        DepthTest test = new DepthTest();
        test.read(new File(source));
        Check.due("methods were read", test.calls.size() > 46 ? 1 : 0, 1);
        for (Element method : test.calls.keySet()) {
            int depth = test.depth(method, new ArrayList<>());
            Check.due("calls from " + method + " go " + depth + " deep", depth <= DEEPEST ? 1 : 0, 1);
        }
        Check.close();
    }

    private void read(File source) throws IOException {
        JavaCompiler compiler = ToolProvider.getSystemJavaCompiler();
        try (StandardJavaFileManager files = compiler.getStandardFileManager(null, null, null)) {
            JavacTask task = (JavacTask) compiler.getTask(null, files, null, List.of("-proc:none"), null,
                files.getJavaFileObjects(source));
            Iterable<? extends CompilationUnitTree> units = task.parse();
            task.analyze();
            for (CompilationUnitTree unit : units) {
                new Calls(Trees.instance(task)).scan(new TreePath(unit), null);
            }
        }
    }

    /** Which methods and constructors each method calls; the library's have none of their own here. */
    private final class Calls extends TreePathScanner<Void, Void> {
        private final Trees trees;
        private Element inside;

        Calls(Trees trees) {
            this.trees = trees;
        }

        @Override
        public Void visitMethod(MethodTree tree, Void none) {
            Element outer = inside;
            inside = trees.getElement(getCurrentPath());
            calls.put(inside, new HashSet<>());
            super.visitMethod(tree, none);
            inside = outer;
            return null;
        }

        @Override
        public Void visitMethodInvocation(MethodInvocationTree tree, Void none) {
            called(tree);
            return super.visitMethodInvocation(tree, none);
        }

        @Override
        public Void visitNewClass(NewClassTree tree, Void none) {
            called(tree);
            return super.visitNewClass(tree, none);
        }

        private void called(Tree tree) {
            if (inside != null) {
                calls.get(inside).add(trees.getElement(trees.getPath(getCurrentPath().getCompilationUnit(), tree)));
            }
        }
    }

    private int depth(Element method, List<Element> open) {
        if (open.contains(method)) {
            return DEEPEST + 1;
        }
        open.add(method);
        int deepest = 1;
        for (Element called : calls.get(method)) {
            if (calls.containsKey(called)) {
                deepest = Math.max(deepest, 1 + depth(called, open));
            }
        }
        open.remove(method);
        return deepest;
    }
}
