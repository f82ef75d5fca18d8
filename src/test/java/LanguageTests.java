import com.sun.source.tree.*;
import com.sun.source.util.JavacTask;
import com.sun.source.util.TreePath;
import com.sun.source.util.TreePathScanner;
import com.sun.source.util.Trees;
import java.io.IOException;
import java.nio.file.Files;
import java.nio.file.Path;
import java.util.ArrayList;
import java.util.HashMap;
import java.util.HashSet;
import java.util.LinkedHashMap;
import java.util.LinkedHashSet;
import java.util.List;
import java.util.Map;
import java.util.Set;
import javax.lang.model.element.Element;
import javax.lang.model.element.ElementKind;
import javax.lang.model.element.ExecutableElement;
import javax.lang.model.element.Modifier;
import javax.tools.JavaCompiler;
import javax.tools.StandardJavaFileManager;
import javax.tools.ToolProvider;

/** The rules of LANGUAGE.md that can be seen in the source of the class. */
public final class LanguageTests {
    private static final Checks CHECKS = new Checks();
    private static final Set<String> LIBRARY = Set.of("System.arraycopy", "Math.min", "Math.max");
    private static final Set<String> THROWN = Set.of("IllegalStateException", "IllegalArgumentException",
        "IndexOutOfBoundsException");
    private static final Set<Tree.Kind> RULED_OUT = Set.of(Tree.Kind.LAMBDA_EXPRESSION, Tree.Kind.MEMBER_REFERENCE,
        Tree.Kind.SYNCHRONIZED, Tree.Kind.ASSERT, Tree.Kind.TRY, Tree.Kind.INSTANCE_OF, Tree.Kind.IMPORT,
        Tree.Kind.SWITCH_EXPRESSION, Tree.Kind.ENHANCED_FOR_LOOP, Tree.Kind.BINDING_PATTERN);

    private final Trees trees;
    private final CompilationUnitTree unit;
    private final Map<Element, Set<Element>> calls = new LinkedHashMap<>();
    private final Set<String> faceNames = new HashSet<>();
    private int classes;

    private LanguageTests(Trees trees, CompilationUnitTree unit) {
        this.trees = trees;
        this.unit = unit;
    }

    public static void main(String[] args) throws IOException {
        Path source = Path.of(args.length > 0 ? args[0] : ".", "src/main/java/ClockDominoes.java");
        byte[] signs = Files.readAllBytes(source);
        for (byte sign : signs) {
            if (sign <= 0) {
                CHECKS.same("a sign of the file", sign, "1 to 127");
            }
        }
        JavaCompiler compiler = ToolProvider.getSystemJavaCompiler();
        try (StandardJavaFileManager files = compiler.getStandardFileManager(null, null, null)) {
            JavacTask task = (JavacTask) compiler.getTask(null, files, null, List.of("-proc:none"), null,
                files.getJavaFileObjects(source));
            CompilationUnitTree unit = task.parse().iterator().next();
            task.analyze();
            new LanguageTests(Trees.instance(task), unit).go();
        }
        CHECKS.end();
    }

    private void go() {
        CHECKS.same("no package line", unit.getPackageName(), null);
        new Names().scan(unit, null);
        new Rules().scan(unit, null);
        CHECKS.same("rule 11: " + classes + " classes", classes <= 12, true);
        Map<Element, Integer> depths = new HashMap<>();
        for (Element method : calls.keySet()) {
            int depth = depthOf(method, depths);
            CHECKS.same("rule 11: " + method + " goes " + depth + " deep", depth <= 8, true);
            recursion(method);
        }
    }

    /** "A private static method that calls itself, private methods that call one another." */
    private void recursion(Element method) {
        if (reached(method).contains(method)) {
            Set<Modifier> flags = method.getModifiers();
            boolean itself = calls.get(method).contains(method);
            CHECKS.same("rule 8: " + method + " is private", flags.contains(Modifier.PRIVATE), true);
            CHECKS.same("rule 8: " + method + " is static", !itself || flags.contains(Modifier.STATIC), true);
        }
    }

    /** How deep calls go from the method, itself counted; those of one recursion count as one. */
    private int depthOf(Element method, Map<Element, Integer> depths) {
        Integer known = depths.get(method);
        if (known != null) {
            return known;
        }
        Set<Element> circle = new LinkedHashSet<>();
        circle.add(method);
        for (Element other : reached(method)) {
            if (reached(other).contains(method)) {
                circle.add(other);
            }
        }
        int below = 0;
        for (Element one : circle) {
            for (Element called : calls.getOrDefault(one, Set.of())) {
                below = circle.contains(called) ? below : Math.max(below, depthOf(called, depths));
            }
        }
        depths.put(method, below + 1);
        return below + 1;
    }

    private Set<Element> reached(Element from) {
        Set<Element> reached = new LinkedHashSet<>();
        List<Element> open = new ArrayList<>(List.of(from));
        while (!open.isEmpty()) {
            for (Element called : calls.getOrDefault(open.remove(0), Set.of())) {
                if (reached.add(called)) {
                    open.add(called);
                }
            }
        }
        return reached;
    }

    private long lines(Tree tree) {
        long from = trees.getSourcePositions().getStartPosition(unit, tree);
        long to = trees.getSourcePositions().getEndPosition(unit, tree);
        return unit.getLineMap().getLineNumber(to) - unit.getLineMap().getLineNumber(from) + 1;
    }

    private final class Names extends TreePathScanner<Void, Void> {
        @Override
        public Void visitMethod(MethodTree method, Void unused) {
            if (method.getModifiers().getFlags().contains(Modifier.PUBLIC) && method.getReturnType() != null) {
                faceNames.add(method.getName().toString());
            }
            return super.visitMethod(method, unused);
        }
    }

    private final class Rules extends TreePathScanner<Void, Void> {
        private Element inside;

        @Override
        public Void scan(Tree tree, Void unused) {
            if (tree != null) {
                CHECKS.same("ruled out: " + tree.getKind(), RULED_OUT.contains(tree.getKind()), false);
            }
            return super.scan(tree, unused);
        }

        @Override
        public Void visitClass(ClassTree tree, Void unused) {
            classes++;
            int fields = 0;
            for (Tree member : tree.getMembers()) {
                CHECKS.same("rule 5: no initialiser block", member.getKind() == Tree.Kind.BLOCK, false);
                if (member instanceof VariableTree field) {
                    fields += fieldOf(tree, field) ? 1 : 0;
                }
            }
            CHECKS.same("rule 11: " + fields + " fields of " + tree.getSimpleName(), fields <= 20, true);
            return super.visitClass(tree, unused);
        }

        /** True if it is not a constant. */
        private boolean fieldOf(ClassTree tree, VariableTree field) {
            Set<Modifier> flags = field.getModifiers().getFlags();
            if (!flags.contains(Modifier.STATIC)) {
                return true;
            }
            String name = tree.getSimpleName() + "." + field.getName();
            CHECKS.same("rule 5: " + name + " is final", flags.contains(Modifier.FINAL), true);
            String type = field.getType().toString();
            CHECKS.same("rule 5: type of " + name, Set.of("int", "int[]").contains(type), true);
            return false;
        }

        @Override
        public Void visitMethod(MethodTree method, Void unused) {
            Element before = inside;
            inside = trees.getElement(getCurrentPath());
            calls.putIfAbsent(inside, new LinkedHashSet<>());
            String name = method.getName().toString();
            CHECKS.same("rule 11: parameters of " + name, method.getParameters().size() <= 7, true);
            CHECKS.same("rule 11: lines of " + name, lines(method) <= 60, true);
            boolean face = method.getModifiers().getFlags().contains(Modifier.PUBLIC);
            CHECKS.same("rule 1: the name " + name, !face && faceNames.contains(name), false);
            super.visitMethod(method, unused);
            inside = before;
            return null;
        }

        @Override
        public Void visitMethodInvocation(MethodInvocationTree call, Void unused) {
            Element called = trees.getElement(new TreePath(getCurrentPath(), call.getMethodSelect()));
            if (called instanceof ExecutableElement && !called.getSimpleName().contentEquals("<init>")) {
                String name = called.getEnclosingElement().getSimpleName() + "." + called.getSimpleName();
                boolean own = trees.getTree(called) != null;
                CHECKS.same("rule 4: " + name, own || LIBRARY.contains(name), true);
                if (own && inside != null) {
                    calls.get(inside).add(called);
                }
            }
            return super.visitMethodInvocation(call, unused);
        }

        @Override
        public Void visitThrow(ThrowTree thrown, Void unused) {
            boolean plain = thrown.getExpression() instanceof NewClassTree made
                && THROWN.contains(made.getIdentifier().toString())
                && made.getArguments().stream().allMatch(each -> each.getKind() == Tree.Kind.STRING_LITERAL);
            CHECKS.same("rule 6: " + thrown, plain, true);
            CHECKS.same("rule 6: throw in a constructor", inside.getKind() == ElementKind.CONSTRUCTOR, false);
            return super.visitThrow(thrown, unused);
        }

        @Override
        public Void visitNewClass(NewClassTree made, Void unused) {
            boolean calm = inside == null || inside.getKind() == ElementKind.CONSTRUCTOR
                || getCurrentPath().getParentPath().getLeaf() instanceof ThrowTree;
            CHECKS.same("rule 12: made outside of constructors: " + made, calm, true);
            return super.visitNewClass(made, unused);
        }
    }
}
