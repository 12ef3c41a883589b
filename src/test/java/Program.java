import com.sun.source.tree.BinaryTree;
import com.sun.source.tree.BlockTree;
import com.sun.source.tree.CompilationUnitTree;
import com.sun.source.tree.MethodInvocationTree;
import com.sun.source.tree.MethodTree;
import com.sun.source.tree.NewArrayTree;
import com.sun.source.tree.NewClassTree;
import com.sun.source.tree.Tree;
import com.sun.source.util.JavacTask;
import com.sun.source.util.TreePathScanner;
import com.sun.source.util.Trees;
import java.io.IOException;
import java.nio.file.Path;
import java.util.EnumSet;
import java.util.List;
import java.util.Map;
import java.util.Set;
import java.util.TreeMap;
import java.util.TreeSet;
import javax.lang.model.element.Element;
import javax.lang.model.element.ElementKind;
import javax.lang.model.element.Modifier;
import javax.tools.JavaCompiler;
import javax.tools.StandardJavaFileManager;
import javax.tools.ToolProvider;

/** The program as the compiler sees it. A method is named by its class, its name and its parameters' types. */
final class Program {
    static final Path FILE = Path.of("src/main/java/LateRows.java");

    /** Of each method: which methods of the program it calls. */
    final Map<String, Set<String>> calls = new TreeMap<>();
    final Set<String> publicOnes = new TreeSet<>();
    final Set<String> privateOnes = new TreeSet<>();
    /** Methods (not constructors) that make an object or an array. */
    final Set<String> makers = new TreeSet<>();
    /** What of the library is called: class and name. */
    final Set<String> library = new TreeSet<>();
    final Set<Tree.Kind> kinds = EnumSet.noneOf(Tree.Kind.class);
    /** Operators between operands that are no numbers and no booleans. */
    final Set<String> oddOperators = new TreeSet<>();
    /** Where each method's body begins and ends in the text, its braces counted. */
    final TreeMap<Long, Long> bodies = new TreeMap<>();

    private Trees trees;

    static Program read() throws IOException {
        JavaCompiler compiler = ToolProvider.getSystemJavaCompiler();
        Program program = new Program();
        try (StandardJavaFileManager files = compiler.getStandardFileManager(null, null, null)) {
            JavacTask task = (JavacTask) compiler.getTask(null, files, null, List.of("--release", "17"), null,
                files.getJavaFileObjects(FILE));
            Iterable<? extends CompilationUnitTree> units = task.parse();
            task.analyze();
            program.trees = Trees.instance(task);
            for (CompilationUnitTree unit : units) program.new Look().scan(unit, null);
        }
        for (Set<String> names : program.calls.values()) names.retainAll(program.calls.keySet());
        return program;
    }

    /** Methods that a method leads to, through any number of calls. */
    Set<String> leadsTo(String method) {
        Set<String> found = new TreeSet<>();
        collect(method, found);
        return found;
    }

    private void collect(String method, Set<String> found) {
        for (String next : calls.get(method)) if (found.add(next)) collect(next, found);
    }

    /** Methods that lead to one another, the given one among them: one alone, if it isn't recursive. */
    Set<String> ring(String method) {
        Set<String> ring = new TreeSet<>(Set.of(method));
        for (String other : leadsTo(method)) if (leadsTo(other).contains(method)) ring.add(other);
        return ring;
    }

    /** How deep calls go from a method on, itself counted; a ring of methods counts as one. */
    int depth(String method) {
        Set<String> ring = ring(method);
        int deepest = 0;
        for (String member : ring) {
            for (String next : calls.get(member)) if (!ring.contains(next)) deepest = Math.max(deepest, depth(next));
        }
        return deepest + 1;
    }

    private final class Look extends TreePathScanner<Void, String> {
        @Override
        public Void scan(Tree tree, String method) {
            if (tree != null) kinds.add(tree.getKind());
            return super.scan(tree, method);
        }

        @Override
        public Void visitMethod(MethodTree tree, String method) {
            Element element = trees.getElement(getCurrentPath());
            String name = nameOf(element);
            calls.put(name, new TreeSet<>());
            if (element.getModifiers().contains(Modifier.PUBLIC)) publicOnes.add(name);
            if (element.getModifiers().contains(Modifier.PRIVATE)) privateOnes.add(name);
            BlockTree body = tree.getBody();
            CompilationUnitTree unit = getCurrentPath().getCompilationUnit();
            // A constructor that the compiler adds has no place in the text.
            long begin = trees.getSourcePositions().getStartPosition(unit, body);
            long end = trees.getSourcePositions().getEndPosition(unit, body);
            if (end > begin && element.getKind() == ElementKind.METHOD) bodies.put(begin, end);
            return super.visitMethod(tree, name);
        }

        @Override
        public Void visitMethodInvocation(MethodInvocationTree tree, String method) {
            Element element = trees.getElement(getCurrentPath());
            if (method != null) calls.get(method).add(nameOf(element));
            // The call of Object's constructor is the compiler's own.
            if (isOfLibrary(element) && element.getKind() == ElementKind.METHOD) {
                library.add(element.getEnclosingElement().getSimpleName() + "." + element.getSimpleName());
            }
            return super.visitMethodInvocation(tree, method);
        }

        @Override
        public Void visitNewClass(NewClassTree tree, String method) {
            Element element = trees.getElement(getCurrentPath());
            if (method != null) calls.get(method).add(nameOf(element));
            if (isOfLibrary(element)) library.add("new " + element.getEnclosingElement().getSimpleName());
            made(method);
            return super.visitNewClass(tree, method);
        }

        @Override
        public Void visitNewArray(NewArrayTree tree, String method) {
            made(method);
            return super.visitNewArray(tree, method);
        }

        @Override
        public Void visitBinary(BinaryTree tree, String method) {
            for (Tree operand : List.of(tree.getLeftOperand(), tree.getRightOperand())) {
                var type = trees.getTypeMirror(trees.getPath(getCurrentPath().getCompilationUnit(), operand));
                if (!type.getKind().isPrimitive()) oddOperators.add(tree.getKind() + " in " + method);
            }
            return super.visitBinary(tree, method);
        }

        private void made(String method) {
            if (method != null && !method.contains("<init>")) makers.add(method);
        }

        private boolean isOfLibrary(Element element) {
            return element.getEnclosingElement().toString().startsWith("java.");
        }

        private String nameOf(Element element) {
            boolean constructor = element.getKind() == ElementKind.CONSTRUCTOR;
            String owner = element.getEnclosingElement().getSimpleName().toString();
            return owner + "." + (constructor ? "<init>" : element.toString());
        }
    }
}
