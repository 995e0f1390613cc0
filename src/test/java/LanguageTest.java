import com.sun.source.tree.AssertTree;
import com.sun.source.tree.BlockTree;
import com.sun.source.tree.ClassTree;
import com.sun.source.tree.CompilationUnitTree;
import com.sun.source.tree.DoWhileLoopTree;
import com.sun.source.tree.EnhancedForLoopTree;
import com.sun.source.tree.ForLoopTree;
import com.sun.source.tree.LambdaExpressionTree;
import com.sun.source.tree.MemberReferenceTree;
import com.sun.source.tree.MethodInvocationTree;
import com.sun.source.tree.MethodTree;
import com.sun.source.tree.NewArrayTree;
import com.sun.source.tree.NewClassTree;
import com.sun.source.tree.SynchronizedTree;
import com.sun.source.tree.ThrowTree;
import com.sun.source.tree.Tree;
import com.sun.source.tree.TryTree;
import com.sun.source.tree.VariableTree;
import com.sun.source.tree.WhileLoopTree;
import com.sun.source.util.JavacTask;
import com.sun.source.util.TreePath;
import com.sun.source.util.TreePathScanner;
import com.sun.source.util.Trees;
import java.io.IOException;
import java.nio.file.Files;
import java.nio.file.Path;
import java.util.HashMap;
import java.util.HashSet;
import java.util.Map;
import java.util.Set;
import java.util.TreeSet;
import javax.lang.model.element.Element;
import javax.lang.model.element.ElementKind;
import javax.lang.model.element.Modifier;
import javax.tools.JavaCompiler;
import javax.tools.StandardJavaFileManager;
import javax.tools.ToolProvider;

/** The rules of ../shared/LANGUAGE.md that can be looked up in the program's text, as the compiler reads it. */
public final class LanguageTest extends TreePathScanner<Void, Void> {
    private static final Path SOURCE = Path.of("src/main/java/TreeStream.java");

    /** What rule 4 leaves of the library, so far as the program uses it. */
    private static final Set<String> LIBRARY = Set.of("String.length", "String.charAt", "Math.max", "Math.min", "Arrays.fill");
    private static final Set<String> STATIC_TYPES = Set.of("int", "long", "boolean", "char", "String", "int[]", "long[]", "char[]", "byte[]");
    private static final int MOST_CLASSES = 12;
    private static final int MOST_FIELDS = 20;
    private static final int MOST_LINES = 60;
    private static final int MOST_PARAMETERS = 7;
    private static final int MOST_CALLS = 8;

    private final Check check = new Check();
    private final CompilationUnitTree unit;
    private final Trees trees;
    private final Map<Element, Set<Element>> calls = new HashMap<>();
    private final Map<Element, Integer> fields = new HashMap<>();
    private Element method;
    private int loops;

    private LanguageTest(CompilationUnitTree unit, Trees trees) {
        this.unit = unit;
        this.trees = trees;
    }

    public static void main(String[] args) throws Exception {
        JavaCompiler compiler = ToolProvider.getSystemJavaCompiler();
        try (StandardJavaFileManager files = compiler.getStandardFileManager(null, null, null)) {
            JavacTask task = (JavacTask) compiler.getTask(null, files, null, null, null, files.getJavaFileObjects(SOURCE));
            CompilationUnitTree unit = task.parse().iterator().next();
            task.analyze();
            new LanguageTest(unit, Trees.instance(task)).look();
        }
    }

    private void look() throws IOException {
        scan(unit, null);
        check.due("rule 1: no package", unit.getPackageName() == null, true);
        check.due("one class in the file", unit.getTypeDecls().size(), 1);
        check.due("rule 4: signs of 1 to 127", Files.readString(SOURCE).chars().allMatch(sign -> sign > 0 && sign < 128), true);
        check.due("rule 11: classes", fields.size() <= MOST_CLASSES, true);
        fields.forEach((type, many) -> check.due("rule 11: fields of " + type + ": " + many, many <= MOST_FIELDS, true));
        for (Element from : calls.keySet()) {
            int depth = depth(from, new HashSet<>());
            check.due("rule 11: calls from " + from + " go " + depth + " deep", depth <= MOST_CALLS, true);
        }
        check.ends();
    }

    /** How many methods stand open at once, at most; rule 8: one that calls itself would need a guard. */
    private int depth(Element from, Set<Element> open) {
        boolean fresh = open.add(from);
        check.due("rule 8: recursion of " + from, fresh, true);
        if (!fresh) {
            return 0;
        }
        int most = 0;
        for (Element to : calls.getOrDefault(from, Set.of())) {
            most = Math.max(most, depth(to, open));
        }
        open.remove(from);
        return most + 1;
    }

    private long line(Tree tree) {
        return unit.getLineMap().getLineNumber(trees.getSourcePositions().getStartPosition(unit, tree));
    }

    private long lines(Tree tree) {
        return unit.getLineMap().getLineNumber(trees.getSourcePositions().getEndPosition(unit, tree)) - line(tree) + 1;
    }

    private void never(String rule, Tree tree) {
        check.due(rule + ", line " + line(tree), true, false);
    }

    private Element here() {
        return trees.getElement(getCurrentPath());
    }

    @Override
    public Void visitClass(ClassTree tree, Void nothing) {
        Element type = here();
        Tree.Kind around = getCurrentPath().getParentPath().getLeaf().getKind();
        boolean outer = around == Tree.Kind.COMPILATION_UNIT;
        check.due("rule 2: no local class, " + type, outer || around == Tree.Kind.CLASS, true);
        Set<Modifier> due = new TreeSet<>(outer ? Set.of(Modifier.PUBLIC, Modifier.FINAL) : Set.of(Modifier.STATIC));
        check.due("rule 1: modifiers of " + type, tree.getModifiers().getFlags().containsAll(due), true);
        fields.put(type, 0);
        return super.visitClass(tree, nothing);
    }

    @Override
    public Void visitBlock(BlockTree tree, Void nothing) {
        check.due("rule 5: no initialiser block", getCurrentPath().getParentPath().getLeaf() instanceof ClassTree, false);
        return super.visitBlock(tree, nothing);
    }

    @Override
    public Void visitMethod(MethodTree tree, Void nothing) {
        method = here();
        calls.putIfAbsent(method, new HashSet<>());
        check.due("rule 11: lines of " + method, lines(tree) <= MOST_LINES, true);
        check.due("rule 11: parameters of " + method, tree.getParameters().size() <= MOST_PARAMETERS, true);
        super.visitMethod(tree, nothing);
        method = null;
        return null;
    }

    @Override
    public Void visitVariable(VariableTree tree, Void nothing) {
        Element variable = here();
        Set<Modifier> flags = variable.getModifiers();
        check.due("rule 3: dimensions of " + variable, variable.asType().toString().contains("[][]"), false);
        if (flags.contains(Modifier.STATIC)) {
            String type = variable.asType().toString().replace("java.lang.", "");
            check.due("rule 5: final " + variable, flags.contains(Modifier.FINAL), true);
            check.due("rule 5: type of " + variable, STATIC_TYPES.contains(type), true);
        } else if (variable.getKind() == ElementKind.FIELD) {
            fields.merge(variable.getEnclosingElement(), 1, Integer::sum);
        }
        return super.visitVariable(tree, nothing);
    }

    @Override
    public Void visitMethodInvocation(MethodInvocationTree tree, Void nothing) {
        Element called = trees.getElement(new TreePath(getCurrentPath(), tree.getMethodSelect()));
        Element owner = called.getEnclosingElement();
        if (fields.containsKey(owner) || owner.toString().startsWith("TreeStream")) {
            check.due("a field's value comes by a call, line " + line(tree), method != null, true);
            calls.computeIfAbsent(method, from -> new HashSet<>()).add(called);
        } else if (called.getKind() != ElementKind.CONSTRUCTOR) {
            String name = owner.getSimpleName() + "." + called.getSimpleName();
            check.due("rule 4: " + name + ", line " + line(tree), LIBRARY.contains(name), true);
        }
        return super.visitMethodInvocation(tree, nothing);
    }

    @Override
    public Void visitNewClass(NewClassTree tree, Void nothing) {
        check.due("rule 2: no anonymous class, line " + line(tree), tree.getClassBody() == null, true);
        made(tree);
        return super.visitNewClass(tree, nothing);
    }

    @Override
    public Void visitNewArray(NewArrayTree tree, Void nothing) {
        made(tree);
        return super.visitNewArray(tree, nothing);
    }

    /** The program makes its rows in constructors; rule 12: none in a loop elsewhere. */
    private void made(Tree tree) {
        boolean elsewhere = method != null && method.getKind() != ElementKind.CONSTRUCTOR;
        check.due("rule 12: made in a loop, line " + line(tree), elsewhere && loops > 0, false);
    }

    @Override
    public Void visitForLoop(ForLoopTree tree, Void nothing) {
        check.due("rule 9: a for with an end, line " + line(tree), tree.getCondition() != null, true);
        loops++;
        super.visitForLoop(tree, nothing);
        loops--;
        return null;
    }

    @Override
    public Void visitWhileLoop(WhileLoopTree tree, Void nothing) {
        check.due("rule 9: a while with an end, line " + line(tree), tree.getCondition().toString().contains("<"), true);
        loops++;
        super.visitWhileLoop(tree, nothing);
        loops--;
        return null;
    }

    @Override
    public Void visitDoWhileLoop(DoWhileLoopTree tree, Void nothing) {
        never("rule 9: a do without a look at its end", tree);
        return null;
    }

    @Override
    public Void visitEnhancedForLoop(EnhancedForLoopTree tree, Void nothing) {
        loops++;
        super.visitEnhancedForLoop(tree, nothing);
        loops--;
        return null;
    }

    @Override
    public Void visitLambdaExpression(LambdaExpressionTree tree, Void nothing) {
        never("rule 2: no lambda", tree);
        return null;
    }

    @Override
    public Void visitMemberReference(MemberReferenceTree tree, Void nothing) {
        never("rule 2: no method reference", tree);
        return null;
    }

    @Override
    public Void visitThrow(ThrowTree tree, Void nothing) {
        never("rule 6: no throw", tree);
        return null;
    }

    @Override
    public Void visitTry(TryTree tree, Void nothing) {
        never("rule 6: no try", tree);
        return null;
    }

    @Override
    public Void visitSynchronized(SynchronizedTree tree, Void nothing) {
        never("rule 6: no synchronized", tree);
        return null;
    }

    @Override
    public Void visitAssert(AssertTree tree, Void nothing) {
        never("rule 6: no assert", tree);
        return null;
    }
}
