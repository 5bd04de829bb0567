import com.sun.source.tree.ClassTree;
import com.sun.source.tree.CompilationUnitTree;
import com.sun.source.tree.MethodInvocationTree;
import com.sun.source.tree.MethodTree;
import com.sun.source.tree.Tree;
import com.sun.source.tree.VariableTree;
import com.sun.source.util.JavacTask;
import com.sun.source.util.TreePathScanner;
import com.sun.source.util.Trees;
import java.io.IOException;
import java.nio.file.Path;
import java.util.ArrayList;
import java.util.HashMap;
import java.util.HashSet;
import java.util.LinkedHashSet;
import java.util.List;
import java.util.Map;
import java.util.Set;
import javax.lang.model.element.Element;
import javax.lang.model.element.ElementKind;
import javax.lang.model.element.Modifier;
import javax.tools.JavaCompiler;
import javax.tools.StandardJavaFileManager;
import javax.tools.ToolProvider;

/** The form of the source, by rules 1 and 11 of LANGUAGE.md. It is run where the source is found. */
public final class FormTest extends TreePathScanner<Void, Void> {
    private static final Path SOURCE = Path.of("src/main/java/GuardWalks.java");

    private final CompilationUnitTree unit;
    private final Trees trees;
    private final Map<Element, Set<Element>> calls = new HashMap<>();
    private final Set<String> publicMethods = new HashSet<>();
    private final List<String> privateMethods = new ArrayList<>();
    private int classes = 0;
    private Element method = null;

    private FormTest(CompilationUnitTree unit, Trees trees) {
        this.unit = unit;
        this.trees = trees;
    }

    public static void main(String[] args) throws IOException {
        JavaCompiler compiler = ToolProvider.getSystemJavaCompiler();
        try (StandardJavaFileManager files = compiler.getStandardFileManager(null, null, null)) {
            JavacTask task = (JavacTask) compiler.getTask(null, files, null, List.of("-proc:none"), null,
                files.getJavaFileObjects(SOURCE));
            CompilationUnitTree unit = task.parse().iterator().next();
            task.analyze();
            FormTest form = new FormTest(unit, Trees.instance(task));
            form.scan(unit, null);
            form.checkClasses();
            form.checkNames();
            form.checkDepth();
        }
        Check.end();
    }

    @Override
    public Void visitClass(ClassTree tree, Void nothing) {
        classes++;
        Check.sentence("a class some twenty fields beside its constants");
        int fields = 0;
        for (Tree member : tree.getMembers()) {
            if (member instanceof VariableTree field && !field.getModifiers().getFlags().contains(Modifier.STATIC)) {
                fields++;
            }
        }
        dueAtMost("fields of " + tree.getSimpleName(), fields, 20);
        return super.visitClass(tree, nothing);
    }

    @Override
    public Void visitMethod(MethodTree tree, Void nothing) {
        Element outer = method;
        method = trees.getElement(getCurrentPath());
        Set<Modifier> flags = tree.getModifiers().getFlags();
        if (flags.contains(Modifier.PUBLIC)) {
            publicMethods.add(tree.getName().toString());
        } else if (flags.contains(Modifier.PRIVATE) && tree.getReturnType() != null) {
            privateMethods.add(tree.getName().toString());
        }
        Check.sentence("A method takes at most seven parameters");
        dueAtMost("parameters of " + tree.getName(), tree.getParameters().size(), 7);
        Check.sentence("Methods stay short (some sixty lines)");
        dueAtMost("lines of " + tree.getName(), lines(tree), 60);
        super.visitMethod(tree, nothing);
        method = outer;
        return null;
    }

    @Override
    public Void visitMethodInvocation(MethodInvocationTree tree, Void nothing) {
        Element called = trees.getElement(getCurrentPath());
        if (method != null && called != null && called.getKind() == ElementKind.METHOD && trees.getTree(called) != null) {
            calls.computeIfAbsent(method, m -> new LinkedHashSet<>()).add(called);
        }
        return super.visitMethodInvocation(tree, nothing);
    }

    private long lines(MethodTree tree) {
        // What the compiler makes itself, a constructor that is not written, has no place.
        long from = trees.getSourcePositions().getStartPosition(unit, tree);
        long to = trees.getSourcePositions().getEndPosition(unit, tree);
        return to < 0 ? 0 : unit.getLineMap().getLineNumber(to) - unit.getLineMap().getLineNumber(from) + 1;
    }

    private void checkClasses() {
        Check.sentence("the file has at most some twelve classes");
        dueAtMost("classes", classes, 12);
    }

    private void checkNames() {
        Check.sentence("No private method bears the name of a public one");
        for (String name : privateMethods) {
            Check.due("public methods called " + name, publicMethods.contains(name), false);
        }
    }

    private void checkDepth() {
        Check.sentence("calls that are no recursion go at most eight deep");
        Check.due("methods that call", !calls.isEmpty(), true);
        for (Element first : calls.keySet()) {
            List<Element> longest = longestFrom(first, new LinkedHashSet<>());
            StringBuilder names = new StringBuilder("calls that are open at once:");
            for (Element open : longest) {
                names.append(' ').append(open.getSimpleName());
            }
            dueAtMost(names.toString(), longest.size(), 8);
        }
    }

    /** The most calls that can be open at once with no method twice among them. */
    private List<Element> longestFrom(Element called, Set<Element> open) {
        open.add(called);
        List<Element> longest = new ArrayList<>(open);
        for (Element next : calls.getOrDefault(called, Set.of())) {
            if (!open.contains(next)) {
                List<Element> further = longestFrom(next, open);
                longest = further.size() > longest.size() ? further : longest;
            }
        }
        open.remove(called);
        return longest;
    }

    private static void dueAtMost(String what, long got, long most) {
        Check.due(what + " beyond " + most, Math.max(got, most), most);
    }
}
