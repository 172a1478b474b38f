import com.sun.source.tree.ArrayAccessTree;
import com.sun.source.tree.BinaryTree;
import com.sun.source.tree.CompilationUnitTree;
import com.sun.source.tree.CompoundAssignmentTree;
import com.sun.source.tree.ConditionalExpressionTree;
import com.sun.source.tree.ExpressionTree;
import com.sun.source.tree.ForLoopTree;
import com.sun.source.tree.IdentifierTree;
import com.sun.source.tree.IfTree;
import com.sun.source.tree.LiteralTree;
import com.sun.source.tree.MethodInvocationTree;
import com.sun.source.tree.MethodTree;
import com.sun.source.tree.NewArrayTree;
import com.sun.source.tree.NewClassTree;
import com.sun.source.tree.ParenthesizedTree;
import com.sun.source.tree.Tree;
import com.sun.source.tree.VariableTree;
import com.sun.source.tree.WhileLoopTree;
import com.sun.source.util.JavacTask;
import com.sun.source.util.TreePath;
import com.sun.source.util.TreePathScanner;
import com.sun.source.util.TreeScanner;
import com.sun.source.util.Trees;
import java.nio.file.Path;
import java.util.ArrayDeque;
import java.util.ArrayList;
import java.util.Deque;
import java.util.List;
import java.util.Map;
import java.util.Set;
import java.util.TreeMap;
import java.util.TreeSet;
import javax.lang.model.element.Element;
import javax.lang.model.element.ExecutableElement;
import javax.lang.model.element.Modifier;
import javax.lang.model.element.VariableElement;
import javax.tools.JavaCompiler;
import javax.tools.StandardJavaFileManager;
import javax.tools.ToolProvider;

/** The rules of LANGUAGE.md that show only when the class is read as the compiler reads it; each by its number. */
public final class CodeTest {
    private static final int MOST_DEEP = 8;
    private static final Set<String> LIBRARY = Set.of("Math.min", "Math.max", "Integer.bitCount",
        "Integer.numberOfTrailingZeros", "System.arraycopy", "Arrays.fill", "String.length", "String.charAt");
    private static final Set<String> TYPES = Set.of("int", "long", "boolean", "int[]", "java.lang.String");

    private static final Map<String, Set<String>> calls = new TreeMap<>();
    private static final Map<String, MethodTree> methods = new TreeMap<>();
    private static final Set<String> face = new TreeSet<>();

    public static void main(String[] args) throws Exception {
        JavaCompiler compiler = ToolProvider.getSystemJavaCompiler();
        StandardJavaFileManager files = compiler.getStandardFileManager(null, null, null);
        JavacTask task = (JavacTask) compiler.getTask(null, files, null, List.of("-proc:none"), null,
            files.getJavaFileObjects(Path.of("src/main/java/AlarmRule.java")));
        Iterable<? extends CompilationUnitTree> units = task.parse();
        task.analyze();
        Trees trees = Trees.instance(task);
        for (CompilationUnitTree unit : units) new Reader(trees).scan(unit, null);
        hold("the class was read", methods.size() > 45 && face.size() == 44);
        rule8_recursionCarriesItsDepth();
        rule11_callsGoEightDeep();
        Checks.end("CodeTest");
    }

    private static void hold(String label, boolean holds) {
        Checks.due(label, 1, holds ? 1 : 0);
    }

    private static void rule8_recursionCarriesItsDepth() {
        for (String name : methods.keySet()) {
            if (behind(name).contains(name)) {
                boolean carried = methods.get(name).getParameters().stream()
                    .anyMatch(p -> p.getName().contentEquals("open") || p.getName().contentEquals("depth"));
                hold("rule 8: " + name + " carries its depth", carried);
            }
        }
    }

    private static Set<String> behind(String name) {
        Set<String> seen = new TreeSet<>();
        Deque<String> open = new ArrayDeque<>(calls.getOrDefault(name, Set.of()));
        while (!open.isEmpty()) {
            String next = open.pop();
            if (seen.add(next)) open.addAll(calls.getOrDefault(next, Set.of()));
        }
        return seen;
    }

    /** The library's calls count, too; of a recursion each method counts once. */
    private static void rule11_callsGoEightDeep() {
        for (String name : face) {
            List<String> deepest = deepest(name, new ArrayList<>());
            hold("rule 11: " + deepest, deepest.size() <= MOST_DEEP);
        }
    }

    private static List<String> deepest(String name, List<String> open) {
        open.add(name);
        List<String> best = new ArrayList<>(open);
        for (String next : calls.getOrDefault(name, Set.of())) {
            if (!open.contains(next)) {
                List<String> chain = deepest(next, open);
                if (chain.size() > best.size()) best = chain;
            }
        }
        open.remove(open.size() - 1);
        return best;
    }

    /** Notes who calls whom, and looks at each place as it comes by. */
    private static final class Reader extends TreePathScanner<Void, String> {
        private final Trees trees;

        Reader(Trees trees) {
            this.trees = trees;
        }

        @Override
        public Void visitMethod(MethodTree method, String within) {
            Element e = element();
            String name = nameOf(e);
            methods.put(name, method);
            if (e.getModifiers().contains(Modifier.PUBLIC) && e instanceof ExecutableElement && !name.contains("<init>")) {
                face.add(name);
            }
            return super.visitMethod(method, name);
        }

        @Override
        public Void visitVariable(VariableTree variable, String within) {
            String type = element().asType().toString();
            hold("rule 3: " + variable.getName() + " is " + type, TYPES.contains(type) || type.startsWith("AlarmRule."));
            return super.visitVariable(variable, within);
        }

        @Override
        public Void visitMethodInvocation(MethodInvocationTree call, String within) {
            Element e = element();
            String name = nameOf(e);
            boolean own = e.getEnclosingElement().toString().startsWith("AlarmRule");
            boolean ofNew = name.endsWith("<init>");
            hold("rule 4: " + name, own || ofNew || LIBRARY.contains(name));
            if (within != null && !ofNew) calls.computeIfAbsent(within, k -> new TreeSet<>()).add(name);
            return super.visitMethodInvocation(call, within);
        }

        @Override
        public Void visitNewClass(NewClassTree made, String within) {
            boolean thrown = getCurrentPath().getParentPath().getLeaf().getKind() == Tree.Kind.THROW;
            hold("rule 12: " + made + " in " + within, thrown || within == null);
            hold("rule 6: " + made + " in " + within, !thrown || within != null && !within.endsWith("<init>"));
            return super.visitNewClass(made, within);
        }

        @Override
        public Void visitNewArray(NewArrayTree made, String within) {
            hold("rule 12: " + made + " in " + within, within == null);
            return super.visitNewArray(made, within);
        }

        @Override
        public Void visitArrayAccess(ArrayAccessTree place, String within) {
            ExpressionTree index = place.getIndex();
            hold("rule 7: " + place + " in " + within, isConstant(index) || isLookedAt(index));
            return super.visitArrayAccess(place, within);
        }

        @Override
        public Void visitBinary(BinaryTree pair, String within) {
            if (pair.getKind() == Tree.Kind.DIVIDE || pair.getKind() == Tree.Kind.REMAINDER) {
                needDivisor(pair.getRightOperand(), within);
            }
            return super.visitBinary(pair, within);
        }

        @Override
        public Void visitCompoundAssignment(CompoundAssignmentTree change, String within) {
            if (change.getKind() == Tree.Kind.DIVIDE_ASSIGNMENT || change.getKind() == Tree.Kind.REMAINDER_ASSIGNMENT) {
                needDivisor(change.getExpression(), within);
            }
            return super.visitCompoundAssignment(change, within);
        }

        private void needDivisor(ExpressionTree divisor, String within) {
            hold("rule 7: by " + divisor + " in " + within, isConstant(divisor) || isLookedAt(divisor));
        }

        private Element element() {
            return trees.getElement(getCurrentPath());
        }

        private boolean isConstant(ExpressionTree e) {
            if (e instanceof LiteralTree literal) return !literal.getValue().equals(0) || isIndex(e);
            Element named = e instanceof IdentifierTree ? trees.getElement(new TreePath(getCurrentPath(), e)) : null;
            return named instanceof VariableElement v && v.getConstantValue() != null;
        }

        private boolean isIndex(ExpressionTree e) {
            return getCurrentPath().getLeaf() instanceof ArrayAccessTree place && place.getIndex() == e;
        }

        /** Whether all that is named in it is named, too, in a condition that stands round it or ahead of it. */
        private boolean isLookedAt(ExpressionTree e) {
            Set<String> names = names(e);
            for (TreePath p = getCurrentPath(); p != null; p = p.getParentPath()) {
                names.removeAll(names(conditionOf(p.getLeaf())));
            }
            return names.isEmpty();
        }

        private static Tree conditionOf(Tree t) {
            if (t instanceof ForLoopTree loop) return loop.getCondition();
            if (t instanceof WhileLoopTree loop) return loop.getCondition();
            if (t instanceof IfTree choice) return choice.getCondition();
            if (t instanceof ConditionalExpressionTree choice) return choice.getCondition();
            if (t instanceof BinaryTree both && both.getKind() == Tree.Kind.CONDITIONAL_AND) return both.getLeftOperand();
            return null;
        }

        /** Names inside the places of rows are no tests of these names. */
        private static Set<String> names(Tree t) {
            Set<String> names = new TreeSet<>();
            new TreeScanner<Void, Void>() {
                @Override
                public Void visitIdentifier(IdentifierTree name, Void nothing) {
                    names.add(name.getName().toString());
                    return null;
                }

                @Override
                public Void visitArrayAccess(ArrayAccessTree place, Void nothing) {
                    return null;
                }

                @Override
                public Void visitParenthesized(ParenthesizedTree inside, Void nothing) {
                    return scan(inside.getExpression(), nothing);
                }
            }.scan(t, null);
            return names;
        }

        private static String nameOf(Element e) {
            String full = e.getEnclosingElement().toString();
            return full.substring(full.lastIndexOf('.') + 1) + "." + e.getSimpleName();
        }
    }
}
