import com.sun.source.tree.ClassTree;
import com.sun.source.tree.CompilationUnitTree;
import com.sun.source.tree.DoWhileLoopTree;
import com.sun.source.tree.ForLoopTree;
import com.sun.source.tree.MethodInvocationTree;
import com.sun.source.tree.MethodTree;
import com.sun.source.tree.NewArrayTree;
import com.sun.source.tree.NewClassTree;
import com.sun.source.tree.Tree;
import com.sun.source.tree.WhileLoopTree;
import com.sun.source.util.JavacTask;
import com.sun.source.util.TreePath;
import com.sun.source.util.TreePathScanner;
import com.sun.source.util.Trees;
import java.io.IOException;
import java.nio.file.Path;
import java.util.ArrayDeque;
import java.util.Deque;
import java.util.LinkedHashMap;
import java.util.LinkedHashSet;
import java.util.List;
import java.util.Map;
import java.util.Set;
import javax.lang.model.element.Element;
import javax.lang.model.element.ElementKind;
import javax.lang.model.element.ExecutableElement;
import javax.lang.model.element.Modifier;
import javax.lang.model.element.TypeElement;
import javax.lang.model.util.Elements;
import javax.tools.JavaCompiler;
import javax.tools.StandardJavaFileManager;
import javax.tools.ToolProvider;

/** The rules of LANGUAGE.md on calls, loops and new objects, told from the compiler's tree of the class. */
public final class CallsTest {
    private static final Answers answers = new Answers("CallsTest");
    private static final Path SOURCE = Path.of("src", "main", "java", "KeptHeap.java");
    private static final Set<String> LIBRARY = Set.of("Math.max", "Math.min");
    private static final int DEEPEST = 8;

    private static final Map<ExecutableElement, Set<ExecutableElement>> callsOf = new LinkedHashMap<>();

    public static void main(String[] args) throws IOException {
        JavaCompiler compiler = ToolProvider.getSystemJavaCompiler();
        try (StandardJavaFileManager files = compiler.getStandardFileManager(null, null, null)) {
            JavacTask task = (JavacTask) compiler.getTask(
                null, files, null, List.of("-proc:none"), null, files.getJavaFileObjects(SOURCE));
            CompilationUnitTree unit = task.parse().iterator().next();
            task.analyze();
            new Reader(Trees.instance(task)).scan(unit, null);
            addOverriders(task.getElements());
        }
        answers.dueTrue("the class was read", callsOf.size() > 16);
        for (ExecutableElement method : callsOf.keySet()) {
            int depth = depthOf(method, new ArrayDeque<>());
            answers.dueTrue(nameOf(method) + " goes " + depth + " deep", depth <= DEEPEST);
        }
        answers.end();
    }

    /** How many calls stand open at once, this one too. */
    private static int depthOf(ExecutableElement method, Deque<ExecutableElement> open) {
        if (open.contains(method)) {
            answers.dueTrue(nameOf(method) + " does not come to itself", false);
            return 0;
        }
        open.push(method);
        int deepest = 0;
        for (ExecutableElement called : callsOf.getOrDefault(method, Set.of())) {
            deepest = Math.max(deepest, depthOf(called, open));
        }
        open.pop();
        return deepest + 1;
    }

    /** A call of a keeper's method may be one of each method that overrides it. */
    private static void addOverriders(Elements elements) {
        for (Set<ExecutableElement> called : callsOf.values()) {
            Set<ExecutableElement> more = new LinkedHashSet<>();
            for (ExecutableElement one : called) {
                for (ExecutableElement other : callsOf.keySet()) {
                    if (elements.overrides(other, one, (TypeElement) other.getEnclosingElement())) {
                        more.add(other);
                    }
                }
            }
            called.addAll(more);
        }
    }

    private static String nameOf(ExecutableElement method) {
        return method.getEnclosingElement().getSimpleName() + "." + method.getSimpleName();
    }

    private static boolean isOwn(Element element) {
        Element outermost = element;
        while (outermost.getEnclosingElement().getKind() != ElementKind.PACKAGE) {
            outermost = outermost.getEnclosingElement();
        }
        return outermost.getSimpleName().contentEquals("KeptHeap");
    }

    private static boolean canBeOverridden(ExecutableElement method) {
        Set<Modifier> its = method.getModifiers();
        boolean fixed = its.contains(Modifier.STATIC) || its.contains(Modifier.PRIVATE) || its.contains(Modifier.FINAL)
            || method.getKind() == ElementKind.CONSTRUCTOR
            || method.getEnclosingElement().getModifiers().contains(Modifier.FINAL);
        return !fixed;
    }

    private static final class Reader extends TreePathScanner<Void, Void> {
        private final Trees trees;
        private ExecutableElement current;
        private int loops;

        Reader(Trees trees) {
            this.trees = trees;
        }

        @Override
        public Void visitClass(ClassTree node, Void unused) {
            boolean local = getCurrentPath().getParentPath().getLeaf() instanceof NewClassTree || current != null;
            answers.dueTrue(node.getSimpleName() + " is no local class", !local);
            return super.visitClass(node, unused);
        }

        @Override
        public Void visitMethod(MethodTree node, Void unused) {
            current = (ExecutableElement) trees.getElement(getCurrentPath());
            callsOf.put(current, new LinkedHashSet<>());
            super.visitMethod(node, unused);
            current = null;
            return null;
        }

        @Override
        public Void visitMethodInvocation(MethodInvocationTree node, Void unused) {
            noteCall((ExecutableElement) trees.getElement(new TreePath(getCurrentPath(), node.getMethodSelect())));
            return super.visitMethodInvocation(node, unused);
        }

        @Override
        public Void visitNewClass(NewClassTree node, Void unused) {
            noteCall((ExecutableElement) trees.getElement(getCurrentPath()));
            noteNew(node);
            return super.visitNewClass(node, unused);
        }

        @Override
        public Void visitNewArray(NewArrayTree node, Void unused) {
            noteNew(node);
            boolean inConstructor = current != null && current.getKind() == ElementKind.CONSTRUCTOR;
            answers.dueTrue(node + " is made in a constructor", inConstructor);
            return super.visitNewArray(node, unused);
        }

        @Override
        public Void visitForLoop(ForLoopTree node, Void unused) {
            boolean counts = node.getInitializer().size() == 1 && node.getCondition() != null && node.getUpdate().size() == 1;
            answers.dueTrue("for (" + node.getCondition() + ") has a counter and a bound", counts);
            loops++;
            super.visitForLoop(node, unused);
            loops--;
            return null;
        }

        @Override
        public Void visitWhileLoop(WhileLoopTree node, Void unused) {
            answers.dueTrue("no while, as its end is not seen from here", false);
            return super.visitWhileLoop(node, unused);
        }

        @Override
        public Void visitDoWhileLoop(DoWhileLoopTree node, Void unused) {
            answers.dueTrue("no do, as its end is not seen from here", false);
            return super.visitDoWhileLoop(node, unused);
        }

        private void noteCall(ExecutableElement called) {
            if (!isOwn(called)) {
                boolean objectItself = called.getKind() == ElementKind.CONSTRUCTOR && nameOf(called).startsWith("Object.");
                answers.dueTrue(nameOf(called) + " is of the library that may be used",
                    objectItself || LIBRARY.contains(nameOf(called)));
                return;
            }
            answers.dueTrue(nameOf(called) + " is called by a method", current != null);
            if (current == null) {
                return;
            }
            callsOf.get(current).add(called);
            if (current.getKind() == ElementKind.CONSTRUCTOR) {
                answers.dueTrue("a constructor calls " + nameOf(called), !canBeOverridden(called));
            }
        }

        private void noteNew(Tree made) {
            answers.dueTrue(made + " is not made in a loop", loops == 0);
        }
    }
}
