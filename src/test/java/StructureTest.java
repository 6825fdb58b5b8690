import com.sun.source.tree.ClassTree;
import com.sun.source.tree.CompilationUnitTree;
import com.sun.source.tree.MethodInvocationTree;
import com.sun.source.tree.MethodTree;
import com.sun.source.tree.NewClassTree;
import com.sun.source.tree.Tree;
import com.sun.source.tree.VariableTree;
import com.sun.source.util.JavacTask;
import com.sun.source.util.TreePath;
import com.sun.source.util.TreePathScanner;
import com.sun.source.util.Trees;
import java.nio.file.Path;
import java.util.List;
import java.util.Map;
import java.util.Set;
import java.util.TreeMap;
import java.util.TreeSet;
import javax.lang.model.element.Element;
import javax.lang.model.element.Modifier;
import javax.tools.JavaCompiler;
import javax.tools.StandardJavaFileManager;
import javax.tools.ToolProvider;

/** What of LANGUAGE.md can be seen in the compiler's trees: calls, their depth, the library, fields. */
public final class StructureTest {
    private static final int DEPTH = 8;
    private static final int FIELDS = 20;
    private static final int CLASSES = 12;
    private static final Set<String> LIBRARY = Set.of("java.lang.Integer.bitCount", "java.lang.Integer.numberOfTrailingZeros",
            "java.lang.Math.max", "java.lang.Math.min", "java.lang.String.length", "java.lang.String.charAt",
            "java.lang.System.arraycopy", "java.util.Arrays.fill", "java.lang.Object.<init>");

    private final Map<String, Set<String>> calls = new TreeMap<>();
    private final Map<String, Integer> fields = new TreeMap<>();
    private final Set<String> outside = new TreeSet<>();

    public static void main(String[] args) throws Exception {
        StructureTest test = new StructureTest();
        test.read();
        Check.isTrue("methods were seen", test.calls.size() > 100);
        Check.isTrue("the library is rule 4's: " + test.outside, LIBRARY.containsAll(test.outside));
        Check.isTrue("classes: " + test.fields.keySet(), test.fields.size() <= CLASSES);
        for (String name : test.fields.keySet()) {
            Check.isTrue(name + " has " + test.fields.get(name) + " fields", test.fields.get(name) <= FIELDS);
        }
        for (String method : test.calls.keySet()) {
            int depth = test.depth(method, new TreeSet<>());
            Check.isTrue(method + " goes " + depth + " deep", depth <= DEPTH);
        }
        Check.finish();
    }

    private void read() throws Exception {
        JavaCompiler compiler = ToolProvider.getSystemJavaCompiler();
        try (StandardJavaFileManager files = compiler.getStandardFileManager(null, null, null)) {
            JavacTask task = (JavacTask) compiler.getTask(null, files, null, List.of("-proc:none"), null,
                    files.getJavaFileObjects(Path.of("src/main/java/LieKitchen.java")));
            Iterable<? extends CompilationUnitTree> units = task.parse();
            task.analyze();
            for (CompilationUnitTree unit : units) {
                new Scanner(Trees.instance(task)).scan(new TreePath(unit), null);
            }
        }
    }

    /** How many calls stand open at once, the method's own with them; more than DEPTH if it calls itself. */
    private int depth(String method, Set<String> open) {
        if (!open.add(method)) {
            return DEPTH + 1;
        }
        int deepest = 0;
        for (String called : calls.getOrDefault(method, Set.of())) {
            deepest = Math.max(deepest, depth(called, open));
        }
        open.remove(method);
        return deepest + 1;
    }

    private final class Scanner extends TreePathScanner<Void, Void> {
        private final Trees trees;
        private String inside = "";

        Scanner(Trees trees) {
            this.trees = trees;
        }

        private String nameOf(Element e) {
            return e.getEnclosingElement() + "." + e.getSimpleName();
        }

        private void called(Tree tree) {
            Element e = trees.getElement(new TreePath(getCurrentPath(), tree));
            String name = nameOf(e);
            if (e.getEnclosingElement().toString().startsWith("LieKitchen")) {
                calls.computeIfAbsent(inside, k -> new TreeSet<>()).add(name);
            } else {
                outside.add(name);
            }
        }

        @Override
        public Void visitClass(ClassTree tree, Void none) {
            String name = trees.getElement(getCurrentPath()).toString();
            fields.put(name, 0);
            for (Tree member : tree.getMembers()) {
                if (member instanceof VariableTree v && !v.getModifiers().getFlags().contains(Modifier.STATIC)) {
                    fields.merge(name, 1, Integer::sum);
                }
            }
            return super.visitClass(tree, none);
        }

        @Override
        public Void visitMethod(MethodTree tree, Void none) {
            inside = nameOf(trees.getElement(getCurrentPath()));
            calls.computeIfAbsent(inside, k -> new TreeSet<>());
            return super.visitMethod(tree, none);
        }

        @Override
        public Void visitMethodInvocation(MethodInvocationTree tree, Void none) {
            called(tree.getMethodSelect());
            return super.visitMethodInvocation(tree, none);
        }

        @Override
        public Void visitNewClass(NewClassTree tree, Void none) {
            Element e = trees.getElement(getCurrentPath());
            calls.computeIfAbsent(inside, k -> new TreeSet<>()).add(nameOf(e));
            return super.visitNewClass(tree, none);
        }
    }
}
