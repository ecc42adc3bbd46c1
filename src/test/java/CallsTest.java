import com.sun.source.tree.ClassTree;
import com.sun.source.tree.CompilationUnitTree;
import com.sun.source.tree.MethodInvocationTree;
import com.sun.source.tree.MethodTree;
import com.sun.source.tree.NewClassTree;
import com.sun.source.tree.Tree;
import com.sun.source.util.JavacTask;
import com.sun.source.util.TreePath;
import com.sun.source.util.TreePathScanner;
import com.sun.source.util.Trees;
import java.util.ArrayList;
import java.util.List;
import java.util.Map;
import java.util.Set;
import java.util.TreeMap;
import java.util.TreeSet;
import javax.lang.model.element.Element;
import javax.lang.model.element.Modifier;
import javax.tools.JavaCompiler;
import javax.tools.StandardJavaFileManager;
import javax.tools.ToolProvider;

/** Rules 1, 4, 8, 11 of ../shared/LANGUAGE.md, by what the compiler knows of the class: who calls whom. */
public final class CallsTest {
    private static final String OWN = "OrchardLadders";
    private static final int DEEPEST = 8, MOST_PARAMETERS = 7, MOST_CLASSES = 12, MOST_FIELDS = 20;
    /** What the class uses of rule 4's list: another function comes here first, behind a look at that rule. */
    private static final Set<String> LIBRARY = Set.of("java.lang.System.arraycopy", "java.lang.Math.min", "java.lang.Math.max",
        "java.lang.Integer.bitCount", "java.lang.Object.<init>");

    private final Map<String, Set<String>> calls = new TreeMap<>();
    private final List<String> faceNames = new ArrayList<>();
    private final List<String> insideNames = new ArrayList<>();
    private int classes;

    public static void main(String[] args) throws Exception {
        CallsTest test = new CallsTest();
        test.look();
        Check.holds("methods were seen", test.calls.size() > 31 && test.calls.containsKey(OWN + ".plan"));
        Check.holds("twelve classes at most", test.classes <= MOST_CLASSES);
        test.libraryIsAllowed();
        test.noPublicNameInside();
        test.notTooDeep();
        Check.end();
    }

    private void look() throws Exception {
        JavaCompiler compiler = ToolProvider.getSystemJavaCompiler();
        try (StandardJavaFileManager files = compiler.getStandardFileManager(null, null, null)) {
            JavacTask task = (JavacTask) compiler.getTask(null, files, null, List.of("-proc:none"), null,
                files.getJavaFileObjects("src/main/java/OrchardLadders.java"));
            List<CompilationUnitTree> units = new ArrayList<>();
            for (CompilationUnitTree unit : task.parse()) {
                units.add(unit);
            }
            task.analyze();
            for (CompilationUnitTree unit : units) {
                new Look(Trees.instance(task)).scan(unit, null);
            }
        }
    }

    private void libraryIsAllowed() {
        for (Map.Entry<String, Set<String>> row : calls.entrySet()) {
            for (String callee : row.getValue()) {
                Check.holds(row.getKey() + " may call " + callee, callee.startsWith(OWN) || LIBRARY.contains(callee));
            }
        }
    }

    private void noPublicNameInside() {
        Check.due("public methods", faceNames.size(), 31);
        for (String name : insideNames) {
            Check.holds(name + " is no public name", !faceNames.contains(name));
        }
    }

    private void notTooDeep() {
        for (String method : calls.keySet()) {
            int depth = depth(method, new ArrayList<>());
            Check.holds(method + " goes " + depth + " deep", depth <= DEEPEST);
        }
    }

    /** How many methods of the class stand open at once, from this one on; a method that comes to itself is far too deep. */
    private int depth(String method, List<String> open) {
        if (open.contains(method)) {
            return 1000;
        }
        open.add(method);
        int deepest = 0;
        for (String callee : calls.getOrDefault(method, Set.of())) {
            deepest = Math.max(deepest, callee.startsWith(OWN) ? depth(callee, open) : 0);
        }
        open.remove(method);
        return 1 + deepest;
    }

    /** Notes of each method which ones it calls; a constructor also runs what stands at the fields. */
    private final class Look extends TreePathScanner<Void, Void> {
        private final Trees trees;

        Look(Trees trees) {
            this.trees = trees;
        }

        @Override
        public Void visitClass(ClassTree tree, Void none) {
            classes++;
            int fields = 0;
            for (Tree member : tree.getMembers()) {
                Element e = trees.getElement(new TreePath(getCurrentPath(), member));
                fields += e.getKind().isField() && !e.getModifiers().contains(Modifier.STATIC) ? 1 : 0;
            }
            Check.holds(tree.getSimpleName() + " has " + fields + " fields", fields <= MOST_FIELDS);
            return super.visitClass(tree, none);
        }

        @Override
        public Void visitMethod(MethodTree tree, Void none) {
            Element e = trees.getElement(getCurrentPath());
            String name = e.getSimpleName().toString();
            calls.putIfAbsent(nameOf(e), new TreeSet<>());
            Check.holds(nameOf(e) + " has seven parameters at most", tree.getParameters().size() <= MOST_PARAMETERS);
            if (!name.equals("<init>")) {
                boolean isFace = e.getModifiers().contains(Modifier.PUBLIC);
                (isFace ? faceNames : insideNames).add(name);
            }
            return super.visitMethod(tree, none);
        }

        @Override
        public Void visitMethodInvocation(MethodInvocationTree tree, Void none) {
            note(trees.getElement(getCurrentPath()));
            return super.visitMethodInvocation(tree, none);
        }

        @Override
        public Void visitNewClass(NewClassTree tree, Void none) {
            note(trees.getElement(getCurrentPath()));
            return super.visitNewClass(tree, none);
        }

        private void note(Element callee) {
            calls.computeIfAbsent(caller(), k -> new TreeSet<>()).add(nameOf(callee));
        }

        private String caller() {
            TreePath path = getCurrentPath();
            while (!(path.getLeaf() instanceof MethodTree) && !(path.getLeaf() instanceof ClassTree)) {
                path = path.getParentPath();
            }
            Element e = trees.getElement(path);
            return path.getLeaf() instanceof MethodTree ? nameOf(e) : e + ".<init>";
        }

        private String nameOf(Element method) {
            return method.getEnclosingElement() + "." + method.getSimpleName();
        }
    }
}
