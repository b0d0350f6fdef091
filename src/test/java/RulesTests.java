import com.sun.source.tree.BinaryTree;
import com.sun.source.tree.CompilationUnitTree;
import com.sun.source.tree.DoWhileLoopTree;
import com.sun.source.tree.ExpressionTree;
import com.sun.source.tree.ForLoopTree;
import com.sun.source.tree.IdentifierTree;
import com.sun.source.tree.MethodInvocationTree;
import com.sun.source.tree.MethodTree;
import com.sun.source.tree.NewClassTree;
import com.sun.source.tree.Tree;
import com.sun.source.tree.UnaryTree;
import com.sun.source.tree.WhileLoopTree;
import com.sun.source.util.JavacTask;
import com.sun.source.util.TreePath;
import com.sun.source.util.TreePathScanner;
import com.sun.source.util.TreeScanner;
import com.sun.source.util.Trees;
import java.io.IOException;
import java.nio.file.Path;
import java.util.ArrayList;
import java.util.LinkedHashSet;
import java.util.List;
import java.util.Map;
import java.util.Set;
import java.util.TreeMap;
import java.util.TreeSet;
import javax.lang.model.element.Element;
import javax.lang.model.element.ElementKind;
import javax.tools.JavaCompiler;
import javax.tools.StandardJavaFileManager;
import javax.tools.ToolProvider;

/** The rules of LANGUAGE.md that show in the program's tree: who calls whom, what makes objects, what ends a loop. */
public final class RulesTests {
    private static final int DEEPEST_CALLS = 8;
    private static final int LONGEST_METHOD = 60;
    /** What the program calls of the library that rule 4 allows. */
    private static final Set<String> LIBRARY = Set.of("Integer.bitCount", "Math.max", "Math.min", "System.arraycopy");
    /** Makes an object where nothing was saved yet, so at most one for each slot; all others are made with the first. */
    private static final String MAKER = "RangeDeeds.save(int)";

    private final Check check = new Check("RulesTests");
    private final Map<String, Set<String>> calls = new TreeMap<>();

    public static void main(String[] args) throws IOException {
        RulesTests tests = new RulesTests();
        JavaCompiler compiler = ToolProvider.getSystemJavaCompiler();
        if (compiler == null) {
            System.out.println("There is no compiler here that shows the program's tree: RulesTests look at nothing");
            return;
        }
        tests.read(compiler);
        tests.depthOfCalls();
        tests.check.end();
    }

    private void read(JavaCompiler compiler) throws IOException {
        try (StandardJavaFileManager files = compiler.getStandardFileManager(null, null, null)) {
            JavacTask task = (JavacTask) compiler.getTask(null, files, null, List.of("-proc:none"), null,
                files.getJavaFileObjects(Path.of("src/main/java/RangeDeeds.java")));
            Iterable<? extends CompilationUnitTree> units = task.parse();
            task.analyze();
            for (CompilationUnitTree unit : units) {
                new Reader(Trees.instance(task), unit).scan(unit, null);
            }
        }
    }

    /** Rules 8 and 11: nothing calls itself, and calls go at most eight deep. */
    private void depthOfCalls() {
        check.part("rule 11, calls");
        for (String method : calls.keySet()) {
            List<String> deepest = deepestFrom(method, new LinkedHashSet<>());
            check.holds("at most eight deep: " + deepest, deepest.size() <= DEEPEST_CALLS);
        }
    }

    private List<String> deepestFrom(String method, Set<String> open) {
        List<String> deepest = List.of();
        if (!open.add(method)) {
            check.holds("no recursion: " + open + " " + method, false);
            return deepest;
        }
        for (String called : calls.getOrDefault(method, Set.of())) {
            List<String> chain = deepestFrom(called, open);
            deepest = chain.size() > deepest.size() ? chain : deepest;
        }
        open.remove(method);
        List<String> whole = new ArrayList<>(List.of(method));
        whole.addAll(deepest);
        return whole;
    }

    /** Goes through the program once, and looks at each of its parts. */
    private final class Reader extends TreePathScanner<Void, Void> {
        private static final String OUTSIDE = "a field";

        private final Trees trees;
        private final CompilationUnitTree unit;
        private String method = OUTSIDE;

        private Reader(Trees trees, CompilationUnitTree unit) {
            this.trees = trees;
            this.unit = unit;
        }

        private String nameOf(Element element) {
            return element.getEnclosingElement().getSimpleName() + "." + element;
        }

        private boolean isOwn(Element element) {
            return element.getEnclosingElement().toString().startsWith("RangeDeeds");
        }

        private void note(String called) {
            calls.computeIfAbsent(method, key -> new TreeSet<>()).add(called);
        }

        @Override
        public Void visitMethod(MethodTree tree, Void nothing) {
            method = nameOf(trees.getElement(getCurrentPath()));
            calls.computeIfAbsent(method, key -> new TreeSet<>());
            long lines = lineOf(trees.getSourcePositions().getEndPosition(unit, tree))
                - lineOf(trees.getSourcePositions().getStartPosition(unit, tree)) + 1;
            check.part("rule 11, methods");
            check.holds("some sixty lines: " + method, lines <= LONGEST_METHOD);
            super.visitMethod(tree, nothing);
            method = OUTSIDE;
            return null;
        }

        private long lineOf(long position) {
            return unit.getLineMap().getLineNumber(position);
        }

        @Override
        public Void visitMethodInvocation(MethodInvocationTree tree, Void nothing) {
            Element called = trees.getElement(getCurrentPath());
            note(nameOf(called));
            if (!isOwn(called) && called.getKind() != ElementKind.CONSTRUCTOR) {
                check.part("rule 4, the library");
                check.holds(method + " calls " + nameOf(called), LIBRARY.contains(nameOf(called).replaceAll("\\(.*", "")));
            }
            return super.visitMethodInvocation(tree, nothing);
        }

        @Override
        public Void visitNewClass(NewClassTree tree, Void nothing) {
            note(nameOf(trees.getElement(getCurrentPath())));
            check.part("rule 12, objects");
            String owner = method.replaceAll("\\..*", "");
            boolean withTheFirst = method.equals(OUTSIDE) || method.startsWith(owner + "." + owner + "(");
            check.holds(method + " makes a " + tree.getIdentifier(), withTheFirst || method.equals(MAKER));
            return super.visitNewClass(tree, nothing);
        }

        @Override
        public Void visitForLoop(ForLoopTree tree, Void nothing) {
            hasEnd(tree, tree.getCondition());
            return super.visitForLoop(tree, nothing);
        }

        @Override
        public Void visitWhileLoop(WhileLoopTree tree, Void nothing) {
            hasEnd(tree, tree.getCondition());
            return super.visitWhileLoop(tree, nothing);
        }

        @Override
        public Void visitDoWhileLoop(DoWhileLoopTree tree, Void nothing) {
            hasEnd(tree, tree.getCondition());
            return super.visitDoWhileLoop(tree, nothing);
        }

        /** A counter that only the loop's own lines can step, and that has to be within a bound for the loop to go on. */
        private void hasEnd(Tree loop, ExpressionTree condition) {
            Set<String> counters = localsCompared(condition);
            counters.retainAll(localsStepped(loop));
            check.part("rule 9, loops");
            check.holds("a counter against a bound in " + method + ": " + condition, !counters.isEmpty());
        }

        private Set<String> localsCompared(ExpressionTree condition) {
            Set<String> compared = new TreeSet<>();
            new TreeScanner<Void, Void>() {
                @Override
                public Void visitBinary(BinaryTree tree, Void nothing) {
                    switch (tree.getKind()) {
                        case LESS_THAN: case LESS_THAN_EQUAL: case GREATER_THAN: case GREATER_THAN_EQUAL:
                            addLocal(compared, tree.getLeftOperand());
                            return null;
                        case CONDITIONAL_AND:
                            return super.visitBinary(tree, nothing);
                        default:
                            return null;
                    }
                }
            }.scan(condition, null);
            return compared;
        }

        private Set<String> localsStepped(Tree loop) {
            Set<String> stepped = new TreeSet<>();
            new TreeScanner<Void, Void>() {
                @Override
                public Void visitUnary(UnaryTree tree, Void nothing) {
                    switch (tree.getKind()) {
                        case POSTFIX_INCREMENT: case POSTFIX_DECREMENT:
                            addLocal(stepped, tree.getExpression());
                            return null;
                        default:
                            return super.visitUnary(tree, nothing);
                    }
                }
            }.scan(loop, null);
            return stepped;
        }

        private void addLocal(Set<String> locals, ExpressionTree tree) {
            Element element = tree instanceof IdentifierTree
                ? trees.getElement(new TreePath(getCurrentPath(), tree)) : null;
            if (element != null && element.getKind() == ElementKind.LOCAL_VARIABLE) {
                locals.add(element.toString());
            }
        }
    }
}
