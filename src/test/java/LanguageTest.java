import com.sun.source.tree.AssertTree;
import com.sun.source.tree.ClassTree;
import com.sun.source.tree.CompilationUnitTree;
import com.sun.source.tree.LambdaExpressionTree;
import com.sun.source.tree.MemberReferenceTree;
import com.sun.source.tree.MethodInvocationTree;
import com.sun.source.tree.MethodTree;
import com.sun.source.tree.NewArrayTree;
import com.sun.source.tree.NewClassTree;
import com.sun.source.tree.SynchronizedTree;
import com.sun.source.tree.ThrowTree;
import com.sun.source.tree.TryTree;
import com.sun.source.tree.VariableTree;
import com.sun.source.util.JavacTask;
import com.sun.source.util.TreePathScanner;
import com.sun.source.util.Trees;
import java.io.IOException;
import java.nio.file.Path;
import java.util.HashSet;
import java.util.List;
import java.util.Map;
import java.util.Set;
import java.util.TreeMap;
import java.util.TreeSet;
import javax.lang.model.element.Element;
import javax.lang.model.element.ElementKind;
import javax.lang.model.element.Modifier;
import javax.tools.JavaCompiler;
import javax.tools.StandardJavaFileManager;
import javax.tools.ToolProvider;

/** The rules of LANGUAGE.md that can be seen in the tree of the source: 1, 2, 4 to 6, 8, 11 and 12. */
public final class LanguageTest extends TreePathScanner<Void, Void> {
    private static final Path SOURCE = Path.of("src", "main", "java", "PhaseReader.java");
    private static final Set<String> LIBRARY = Set.of("java.lang.String.length", "java.lang.String.charAt",
        "java.lang.String.indexOf", "java.lang.Math.min", "java.lang.System.arraycopy");
    private static final int MOST_CLASSES = 12;
    private static final int MOST_FIELDS = 20;
    private static final int MOST_PARAMETERS = 7;
    private static final int MOST_LINES = 60;
    private static final int DEEPEST = 8;

    private final Trees trees;
    private final CompilationUnitTree unit;
    private final Map<String, Set<String>> calls = new TreeMap<>();
    private final Set<String> privates = new TreeSet<>();
    private int classes;
    private String method = "";
    private boolean makes = true;

    private LanguageTest(Trees trees, CompilationUnitTree unit) {
        this.trees = trees;
        this.unit = unit;
    }

    public static void main(String[] args) throws IOException {
        JavaCompiler compiler = ToolProvider.getSystemJavaCompiler();
        try (StandardJavaFileManager files = compiler.getStandardFileManager(null, null, null)) {
            JavacTask task = (JavacTask) compiler.getTask(null, files, null, List.of("--release", "17"), null,
                files.getJavaFileObjects(SOURCE));
            CompilationUnitTree unit = task.parse().iterator().next();
            task.analyze();
            LanguageTest test = new LanguageTest(Trees.instance(task), unit);
            test.scan(unit, null);
            test.whole();
        }
        Check.end();
    }

    private void whole() {
        Check.due("imports", unit.getImports().toString(), "");
        Check.due("a package", unit.getPackage() == null, true);
        Check.due("classes", classes <= MOST_CLASSES, true);
        Set<String> recursive = new TreeSet<>();
        for (String caller : calls.keySet()) {
            if (reached(caller).contains(caller)) {
                recursive.add(caller);
                Check.due("recursive " + caller + " is private", privates.contains(caller), true);
            }
        }
        Check.due("methods that are recursive are known", recursive.size() > 0, true);
        for (String caller : calls.keySet()) {
            Check.due("depth of the calls from " + caller, depth(caller, recursive) <= DEEPEST, true);
        }
    }

    private Set<String> reached(String caller) {
        Set<String> seen = new HashSet<>();
        List<String> open = new java.util.ArrayList<>(calls.getOrDefault(caller, Set.of()));
        while (!open.isEmpty()) {
            String next = open.remove(open.size() - 1);
            if (seen.add(next)) {
                open.addAll(calls.getOrDefault(next, Set.of()));
            }
        }
        return seen;
    }

    /** How many calls stand open at most, where methods that call one another count as one. */
    private int depth(String caller, Set<String> recursive) {
        Set<String> together = new HashSet<>(Set.of(caller));
        for (String other : reached(caller)) {
            if (recursive.contains(caller) && reached(other).contains(caller)) {
                together.add(other);
            }
        }
        int deepest = 0;
        for (String one : together) {
            for (String callee : calls.getOrDefault(one, Set.of())) {
                deepest = together.contains(callee) ? deepest : Math.max(deepest, depth(callee, recursive));
            }
        }
        return deepest + 1;
    }

    private static String name(Element element) {
        return element.getEnclosingElement() + "." + element.getSimpleName();
    }

    @Override
    public Void visitClass(ClassTree tree, Void nothing) {
        classes++;
        Set<Modifier> modifiers = tree.getModifiers().getFlags();
        boolean outer = classes == 1;
        Check.due(tree.getSimpleName() + " is static", modifiers.contains(Modifier.STATIC), !outer);
        Check.due(tree.getSimpleName() + " is public", modifiers.contains(Modifier.PUBLIC), outer);
        Check.due(tree.getSimpleName() + " is protected", modifiers.contains(Modifier.PROTECTED), false);
        int fields = 0;
        for (var member : tree.getMembers()) {
            if (member instanceof VariableTree field) {
                Set<Modifier> flags = field.getModifiers().getFlags();
                fields += flags.contains(Modifier.STATIC) ? 0 : 1;
                Check.due(field.getName() + " is no state of the class",
                    flags.contains(Modifier.STATIC) && !flags.contains(Modifier.FINAL), false);
            }
        }
        Check.due("fields of " + tree.getSimpleName(), fields <= MOST_FIELDS, true);
        return super.visitClass(tree, nothing);
    }

    @Override
    public Void visitMethod(MethodTree tree, Void nothing) {
        Element element = trees.getElement(getCurrentPath());
        method = name(element);
        makes = element.getKind() == ElementKind.CONSTRUCTOR;
        if (tree.getModifiers().getFlags().contains(Modifier.PRIVATE)) {
            privates.add(method);
            for (var other : PhaseReader.class.getMethods()) {
                Check.due(method + " has the name of a public one",
                    tree.getName().contentEquals(other.getName()), false);
            }
        }
        Check.due("parameters of " + method, tree.getParameters().size() <= MOST_PARAMETERS, true);
        Check.due("lines of " + method, lines(tree) <= MOST_LINES, true);
        super.visitMethod(tree, nothing);
        makes = true;
        return null;
    }

    private long lines(MethodTree tree) {
        long from = trees.getSourcePositions().getStartPosition(unit, tree);
        long to = trees.getSourcePositions().getEndPosition(unit, tree);
        return to < 0 ? 0 : unit.getLineMap().getLineNumber(to) - unit.getLineMap().getLineNumber(from) + 1;
    }

    @Override
    public Void visitMethodInvocation(MethodInvocationTree tree, Void nothing) {
        Element element = trees.getElement(getCurrentPath());
        String called = name(element);
        if (element.getKind() == ElementKind.CONSTRUCTOR) {
            return super.visitMethodInvocation(tree, nothing);
        }
        if (called.startsWith("PhaseReader.")) {
            calls.computeIfAbsent(method, key -> new TreeSet<>()).add(called);
        } else {
            Check.due(called + " is of the library that may be used", LIBRARY.contains(called), true);
        }
        return super.visitMethodInvocation(tree, nothing);
    }

    @Override
    public Void visitNewClass(NewClassTree tree, Void nothing) {
        Check.due("an object made in " + method, makes && tree.getClassBody() == null, true);
        return super.visitNewClass(tree, nothing);
    }

    @Override
    public Void visitNewArray(NewArrayTree tree, Void nothing) {
        Check.due("an array made in " + method, makes, true);
        return super.visitNewArray(tree, nothing);
    }

    private Void forbidden(String what) {
        Check.due(what + " in " + method, what, "");
        return null;
    }

    @Override
    public Void visitThrow(ThrowTree tree, Void nothing) {
        return forbidden("throw");
    }

    @Override
    public Void visitTry(TryTree tree, Void nothing) {
        return forbidden("try");
    }

    @Override
    public Void visitSynchronized(SynchronizedTree tree, Void nothing) {
        return forbidden("synchronized");
    }

    @Override
    public Void visitAssert(AssertTree tree, Void nothing) {
        return forbidden("assert");
    }

    @Override
    public Void visitLambdaExpression(LambdaExpressionTree tree, Void nothing) {
        return forbidden("a lambda");
    }

    @Override
    public Void visitMemberReference(MemberReferenceTree tree, Void nothing) {
        return forbidden("a method reference");
    }
}
