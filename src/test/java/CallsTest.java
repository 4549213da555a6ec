import com.sun.source.tree.ClassTree;
import com.sun.source.tree.CompilationUnitTree;
import com.sun.source.tree.ForLoopTree;
import com.sun.source.tree.MethodInvocationTree;
import com.sun.source.tree.MethodTree;
import com.sun.source.tree.NewArrayTree;
import com.sun.source.tree.NewClassTree;
import com.sun.source.tree.ThrowTree;
import com.sun.source.tree.VariableTree;
import com.sun.source.util.JavacTask;
import com.sun.source.util.TreePath;
import com.sun.source.util.TreePathScanner;
import com.sun.source.util.Trees;
import java.io.IOException;
import java.nio.file.Path;
import java.util.ArrayList;
import java.util.List;
import java.util.Map;
import java.util.Set;
import java.util.TreeMap;
import java.util.TreeSet;
import javax.lang.model.element.Element;
import javax.lang.model.element.Modifier;
import javax.tools.JavaCompiler;
import javax.tools.StandardJavaFileManager;
import javax.tools.ToolProvider;

/** What LANGUAGE.md says of calls, types and things that are made: javac itself reads the class. */
public final class CallsTest {
    private static final Check C = new Check("CallsTest");
    private static final Path CLASS = Path.of("src/main/java/MountPeers.java");
    private static final int DEEPEST = 8;
    private static final int FIELDS = 20;
    private static final Set<String> LIBRARY = Set.of("java.lang.Integer.bitCount(int)", "java.lang.Long.bitCount(long)",
        "java.lang.Math.max(int,int)", "java.lang.Math.min(int,int)", "java.lang.String.indexOf(int)");
    private static final Set<String> NUMBERS = Set.of("int", "long", "boolean", "int[]", "long[]", "java.lang.String");

    /** By each method of the class: those of the class that it calls; what runs ahead of a constructor is its own. */
    private final Map<String, Set<String>> calls = new TreeMap<>();
    private final Set<String> library = new TreeSet<>();
    private final Set<String> types = new TreeSet<>();
    private final Set<String> throwers = new TreeSet<>();
    private final Set<String> makersInLoops = new TreeSet<>();
    private final Map<String, Integer> fields = new TreeMap<>();

    private final class Reader extends TreePathScanner<Void, Void> {
        private final Trees trees;
        private String method = "";
        private int loops;

        Reader(Trees trees) {
            this.trees = trees;
        }

        private Element here() {
            return trees.getElement(getCurrentPath());
        }

        private void calls(Element called) {
            String name = called.getEnclosingElement() + "." + called;
            if (called.getEnclosingElement().toString().startsWith("MountPeers")) {
                calls.get(method).add(name);
            } else if (!name.equals("java.lang.Object.Object()") && !name.startsWith("java.util.NoSuchElementException.")) {
                library.add(name);
            }
        }

        @Override
        public Void visitClass(ClassTree tree, Void none) {
            String outer = method;
            method = here() + " made";
            calls.put(method, new TreeSet<>());
            fields.put(here().toString(), 0);
            super.visitClass(tree, none);
            method = outer;
            return null;
        }

        @Override
        public Void visitMethod(MethodTree tree, Void none) {
            String made = method;
            method = here().getEnclosingElement() + "." + here();
            calls.put(method, new TreeSet<>());
            if (tree.getReturnType() == null) {
                calls.get(method).add(made);
            } else {
                types.add(trees.getTypeMirror(new TreePath(getCurrentPath(), tree.getReturnType())).toString());
            }
            super.visitMethod(tree, none);
            method = made;
            return null;
        }

        @Override
        public Void visitMethodInvocation(MethodInvocationTree tree, Void none) {
            calls(here());
            return super.visitMethodInvocation(tree, none);
        }

        @Override
        public Void visitNewClass(NewClassTree tree, Void none) {
            calls(here());
            if (loops > 0) {
                makersInLoops.add(method);
            }
            return super.visitNewClass(tree, none);
        }

        @Override
        public Void visitNewArray(NewArrayTree tree, Void none) {
            if (loops > 0) {
                makersInLoops.add(method);
            }
            return super.visitNewArray(tree, none);
        }

        @Override
        public Void visitForLoop(ForLoopTree tree, Void none) {
            loops++;
            super.visitForLoop(tree, none);
            loops--;
            return null;
        }

        @Override
        public Void visitThrow(ThrowTree tree, Void none) {
            throwers.add(method);
            return super.visitThrow(tree, none);
        }

        @Override
        public Void visitVariable(VariableTree tree, Void none) {
            Element e = here();
            types.add(e.asType().toString());
            if (e.getKind().isField() && !e.getModifiers().contains(Modifier.STATIC)) {
                fields.merge(e.getEnclosingElement().toString(), 1, Integer::sum);
            }
            return super.visitVariable(tree, none);
        }
    }

    private void read() throws IOException {
        JavaCompiler javac = ToolProvider.getSystemJavaCompiler();
        try (StandardJavaFileManager files = javac.getStandardFileManager(null, null, null)) {
            JavacTask task = (JavacTask) javac.getTask(null, files, null, null, null, files.getJavaFileObjects(CLASS));
            Iterable<? extends CompilationUnitTree> units = task.parse();
            task.analyze();
            new Reader(Trees.instance(task)).scan(units, null);
        }
    }

    /** The longest row of calls from a method on; one that calls itself counts once, other rounds are refused. */
    private List<String> longest(String method, List<String> open) {
        List<String> best = List.of();
        for (String called : calls.getOrDefault(method, Set.of())) {
            if (open.contains(called)) {
                C.due("rule 8: " + called + " is called round about by " + method, called.equals(method), true);
            } else {
                List<String> through = new ArrayList<>(open);
                through.add(called);
                List<String> row = longest(called, through);
                best = row.size() > best.size() ? row : best;
            }
        }
        List<String> all = new ArrayList<>(List.of(method));
        all.addAll(best);
        return all;
    }

    private static boolean isMaker(String method) {
        return method.endsWith(" made") || method.matches("(.*\\.)?(\\w+)\\.\\2\\(.*");
    }

    private void told() {
        for (String method : calls.keySet()) {
            List<String> row = longest(method, List.of(method));
            // what runs ahead of a constructor is no call of its own
            long deep = row.stream().filter(m -> !m.endsWith(" made")).count();
            C.due("rule 11: " + deep + " deep: " + row, deep <= DEEPEST, true);
            if (calls.get(method).contains(method)) {
                C.due("rule 8: the depth is carried by " + method, method.matches(".*,int\\)"), true);
            }
            if (isMaker(method)) {
                C.due("rule 12: nothing but constructors is called by " + method + ": " + calls.get(method),
                    calls.get(method).stream().allMatch(CallsTest::isMaker), true);
            }
        }
        library.removeAll(LIBRARY);
        C.due("rule 4: other library calls", library.toString(), "[]");
        types.removeAll(NUMBERS);
        types.removeIf(type -> type.equals("void") || type.matches("MountPeers\\.\\w+(\\[\\])?"));
        C.due("rule 3: other types", types.toString(), "[]");
        C.due("rule 6: who throws", throwers.toString(), "[MountPeers.at(int,int), MountPeers.mount(int,int), MountPeers.row(int)]");
        C.due("rule 12: who makes something in a loop", makersInLoops.toString(), "[]");
        C.due("rule 11: " + fields.size() + " classes", fields.size() <= 12 && fields.size() > 1, true);
        fields.forEach((type, n) -> C.due("rule 11: " + n + " fields of " + type, n <= FIELDS, true));
    }

    public static void main(String[] args) throws IOException {
        CallsTest test = new CallsTest();
        test.read();
        test.told();
        C.end();
    }
}
