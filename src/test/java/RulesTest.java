import com.sun.source.tree.BinaryTree;
import com.sun.source.tree.ClassTree;
import com.sun.source.tree.CompilationUnitTree;
import com.sun.source.tree.ConditionalExpressionTree;
import com.sun.source.tree.ExpressionTree;
import com.sun.source.tree.LineMap;
import com.sun.source.tree.LiteralTree;
import com.sun.source.tree.MethodInvocationTree;
import com.sun.source.tree.MethodTree;
import com.sun.source.tree.NewClassTree;
import com.sun.source.tree.Tree;
import com.sun.source.tree.TypeCastTree;
import com.sun.source.tree.VariableTree;
import com.sun.source.util.JavacTask;
import com.sun.source.util.TreePath;
import com.sun.source.util.TreePathScanner;
import com.sun.source.util.Trees;
import java.io.IOException;
import java.nio.file.Path;
import java.util.LinkedHashMap;
import java.util.LinkedHashSet;
import java.util.Map;
import java.util.Set;
import javax.lang.model.element.Element;
import javax.lang.model.element.ExecutableElement;
import javax.lang.model.element.Modifier;
import javax.lang.model.element.TypeElement;
import javax.tools.JavaCompiler;
import javax.tools.StandardJavaFileManager;
import javax.tools.ToolProvider;

/** Rules 5, 7 (divisors), 8 and 11 of LANGUAGE.md, as javac reads the class: how deep calls go, how long methods are. */
public final class RulesTest extends TreePathScanner<Void, Void> {
    private static final int DEEPEST = 8;

    private final JavacTask task;
    private final Trees trees;
    private final CompilationUnitTree unit;
    private final Map<Element, Set<Element>> calls = new LinkedHashMap<>();
    private final Map<Element, Integer> depths = new LinkedHashMap<>();
    private int classes = 0;
    private Element method;

    private RulesTest(JavacTask task, CompilationUnitTree unit) {
        this.task = task;
        this.trees = Trees.instance(task);
        this.unit = unit;
    }

    public static void main(String[] args) throws IOException {
        Path path = Path.of(args.length > 0 ? args[0] : ".", "src/main/java/PocketKeeper.java");
        JavaCompiler javac = ToolProvider.getSystemJavaCompiler();
        try (StandardJavaFileManager files = javac.getStandardFileManager(null, null, null)) {
            JavacTask task = (JavacTask) javac.getTask(null, files, null, null, null, files.getJavaFileObjects(path));
            CompilationUnitTree unit = task.parse().iterator().next();
            task.analyze();
            RulesTest test = new RulesTest(task, unit);
            test.scan(unit, null);
            test.depths();
        }
        Due.end();
    }

    @Override
    public Void visitClass(ClassTree tree, Void none) {
        classes++;
        int fields = 0;
        for (var member : tree.getMembers()) {
            if (member instanceof VariableTree field) {
                boolean isStatic = field.getModifiers().getFlags().contains(Modifier.STATIC);
                Due.holds("5: static " + field.getName() + " is final", !isStatic || field.getModifiers().getFlags().contains(Modifier.FINAL));
                fields += isStatic ? 0 : 1;
            }
        }
        Due.holds("11: " + tree.getSimpleName() + " has " + fields + " fields", fields <= 20);
        Due.holds("11: classes are " + classes, classes <= 12);
        return super.visitClass(tree, none);
    }

    @Override
    public Void visitMethod(MethodTree tree, Void none) {
        method = trees.getElement(getCurrentPath());
        calls.put(method, new LinkedHashSet<>());
        LineMap lines = unit.getLineMap();
        long first = lines.getLineNumber(trees.getSourcePositions().getStartPosition(unit, tree));
        long last = lines.getLineNumber(trees.getSourcePositions().getEndPosition(unit, tree));
        Due.holds("11: " + name(method) + " has " + (last - first + 1) + " lines", last - first < 60);
        Due.holds("11: " + name(method) + " takes " + tree.getParameters().size(), tree.getParameters().size() <= 7);
        return super.visitMethod(tree, none);
    }

    @Override
    public Void visitMethodInvocation(MethodInvocationTree tree, Void none) {
        addCall(trees.getElement(new TreePath(getCurrentPath(), tree.getMethodSelect())));
        return super.visitMethodInvocation(tree, none);
    }

    @Override
    public Void visitNewClass(NewClassTree tree, Void none) {
        addCall(trees.getElement(getCurrentPath()));
        return super.visitNewClass(tree, none);
    }

    @Override
    public Void visitBinary(BinaryTree tree, Void none) {
        if (tree.getKind() == Tree.Kind.DIVIDE || tree.getKind() == Tree.Kind.REMAINDER) {
            ExpressionTree divisor = tree.getRightOperand();
            while (divisor instanceof TypeCastTree cast) {
                divisor = cast.getExpression();
            }
            boolean known = divisor instanceof LiteralTree || isLookedAt(divisor.toString());
            Due.holds("7: in " + name(method) + " " + divisor + " is looked at before it divides", known);
        }
        return super.visitBinary(tree, none);
    }

    /** Whether what is being visited stands in "x > 0 ? .. : ..", in its first branch. */
    private boolean isLookedAt(String divisor) {
        Tree inside = null;
        for (Tree tree : getCurrentPath()) {
            if (tree instanceof ConditionalExpressionTree choice && choice.getTrueExpression() == inside
                    && choice.getCondition().toString().equals(divisor + " > 0")) {
                return true;
            }
            inside = tree;
        }
        return false;
    }

    private void addCall(Element called) {
        Due.holds("11: what " + name(method) + " calls is known", called != null);
        if (called != null && method != null) {
            calls.get(method).add(called);
        }
    }

    private void depths() {
        for (Element start : calls.keySet()) {
            if (start.getModifiers().contains(Modifier.PUBLIC)) {
                int depth = depth(start, new LinkedHashSet<>());
                Due.holds("11: calls of " + name(start) + " go " + depth + " deep", depth <= DEEPEST);
            }
        }
        Due.holds("11: the deepest chain was looked for", depths.containsValue(1) && depths.size() > 20);
        System.out.println("the deepest chain of calls: " + depths.values().stream().mapToInt(Integer::intValue).max().orElse(0));
    }

    /** A method alone is one deep; a call of the library is one deep too. */
    private int depth(Element start, Set<Element> open) {
        if (depths.containsKey(start)) {
            return depths.get(start);
        }
        Due.holds("8: " + name(start) + " does not come to call itself", open.add(start));
        int deepest = 0;
        for (Element called : calls.getOrDefault(start, Set.of())) {
            for (Element meant : meant(called)) {
                deepest = Math.max(deepest, open.contains(meant) ? DEEPEST : depth(meant, open));
            }
        }
        open.remove(start);
        depths.put(start, deepest + 1);
        return deepest + 1;
    }

    /** The method itself, and all that override it. */
    private Set<Element> meant(Element called) {
        Set<Element> meant = new LinkedHashSet<>(Set.of(called));
        for (Element other : calls.keySet()) {
            if (other instanceof ExecutableElement over && called instanceof ExecutableElement under
                    && task.getElements().overrides(over, under, (TypeElement) over.getEnclosingElement())) {
                meant.add(other);
            }
        }
        return meant;
    }

    private static String name(Element element) {
        return element == null ? "no method" : element.getEnclosingElement().getSimpleName() + "." + element;
    }
}
