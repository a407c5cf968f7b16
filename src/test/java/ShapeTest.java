import com.sun.source.tree.ArrayAccessTree;
import com.sun.source.tree.BinaryTree;
import com.sun.source.tree.CompilationUnitTree;
import com.sun.source.tree.DoWhileLoopTree;
import com.sun.source.tree.EnhancedForLoopTree;
import com.sun.source.tree.ExpressionTree;
import com.sun.source.tree.ForLoopTree;
import com.sun.source.tree.IdentifierTree;
import com.sun.source.tree.LiteralTree;
import com.sun.source.tree.MethodInvocationTree;
import com.sun.source.tree.MethodTree;
import com.sun.source.tree.NewArrayTree;
import com.sun.source.tree.NewClassTree;
import com.sun.source.tree.Tree;
import com.sun.source.tree.WhileLoopTree;
import com.sun.source.util.JavacTask;
import com.sun.source.util.TreePathScanner;
import com.sun.source.util.TreeScanner;
import com.sun.source.util.Trees;
import java.util.ArrayList;
import java.util.HashMap;
import java.util.List;
import java.util.Map;
import java.util.Set;
import java.util.TreeSet;
import javax.lang.model.element.Element;
import javax.lang.model.element.ExecutableElement;
import javax.lang.model.element.Modifier;
import javax.tools.JavaCompiler;
import javax.tools.JavaFileObject;
import javax.tools.StandardJavaFileManager;
import javax.tools.ToolProvider;

/** What the tree of the source tells of LANGUAGE.md: how deep calls go, what is made where, that indices are looked at. */
public final class ShapeTest {
    private static final int DEEPEST = 8;

    private final Trees trees;
    private final Map<Element, Set<Element>> calls = new HashMap<>();
    private final List<MethodTree> methods = new ArrayList<>();
    private int indices;

    private ShapeTest(Trees trees) {
        this.trees = trees;
    }

    public static void main(String[] args) throws Exception {
        String source = System.getProperty("standtable.source", "src/main/java/StandTable.java");
        JavaCompiler compiler = ToolProvider.getSystemJavaCompiler();
        try (StandardJavaFileManager files = compiler.getStandardFileManager(null, null, null)) {
            Iterable<? extends JavaFileObject> units = files.getJavaFileObjects(source);
            JavacTask task = (JavacTask) compiler.getTask(null, files, null, null, null, units);
            ShapeTest test = new ShapeTest(Trees.instance(task));
            Iterable<? extends CompilationUnitTree> parsed = task.parse();
            task.analyze();
            for (CompilationUnitTree unit : parsed) {
                test.read(unit);
            }
            test.depths();
            test.looks();
        }
        Check.close("ShapeTest");
    }

    private void read(CompilationUnitTree unit) {
        new TreePathScanner<Void, Element>() {
            private int loops;

            @Override
            public Void visitMethod(MethodTree m, Element outside) {
                Element self = trees.getElement(getCurrentPath());
                calls.computeIfAbsent(self, k -> new java.util.HashSet<>());
                methods.add(m);
                return super.visitMethod(m, self);
            }

            @Override
            public Void visitMethodInvocation(MethodInvocationTree call, Element self) {
                Element goal = trees.getElement(new com.sun.source.util.TreePath(getCurrentPath(), call.getMethodSelect()));
                if (self != null && goal instanceof ExecutableElement) {
                    calls.get(self).add(goal);
                }
                return super.visitMethodInvocation(call, self);
            }

            @Override
            public Void visitForLoop(ForLoopTree t, Element self) {
                loops++;
                Check.due("a for with a test: " + t, t.getCondition() != null, true);
                super.visitForLoop(t, self);
                loops--;
                return null;
            }

            @Override
            public Void visitWhileLoop(WhileLoopTree t, Element self) {
                loops++;
                super.visitWhileLoop(t, self);
                loops--;
                return null;
            }

            @Override
            public Void visitDoWhileLoop(DoWhileLoopTree t, Element self) {
                loops++;
                super.visitDoWhileLoop(t, self);
                loops--;
                return null;
            }

            @Override
            public Void visitEnhancedForLoop(EnhancedForLoopTree t, Element self) {
                loops++;
                super.visitEnhancedForLoop(t, self);
                loops--;
                return null;
            }

            @Override
            public Void visitNewClass(NewClassTree t, Element self) {
                made(t, self);
                return super.visitNewClass(t, self);
            }

            @Override
            public Void visitNewArray(NewArrayTree t, Element self) {
                made(t, self);
                return super.visitNewArray(t, self);
            }

            private void made(Tree t, Element self) {
                boolean behindNoCall = self == null || self.getSimpleName().contentEquals("<init>");
                Check.due("made behind the constructor: " + t, behindNoCall, true);
                Check.due("made in a loop outside a constructor: " + t, loops == 0 || behindNoCall, true);
            }
        }.scan(unit, null);
    }

    private void depths() {
        int deepest = 0;
        int open = 0;
        for (Element m : calls.keySet()) {
            if (m.getModifiers().contains(Modifier.PUBLIC)) {
                List<Element> way = longest(m, new ArrayList<>());
                Check.due("calls that stand open: " + way, way.size() <= DEEPEST, true);
                deepest = Math.max(deepest, way.size());
                open++;
            }
        }
        Check.due("public methods", open, 68 + 1);
        Check.due("the deepest is looked at", deepest > 4, true);
    }

    /** A call that is open already is recursion, and not gone into again. */
    private List<Element> longest(Element m, List<Element> open) {
        List<Element> best = new ArrayList<>();
        open.add(m);
        for (Element goal : calls.get(m)) {
            if (calls.containsKey(goal) && !open.contains(goal)) {
                List<Element> way = longest(goal, open);
                if (way.size() > best.size()) {
                    best = way;
                }
            }
        }
        open.remove(open.size() - 1);
        best.add(0, m);
        return best;
    }

    /** Rule 7: an index is a constant, or a name that the same method compares, or asks a method about that tells. */
    private void looks() {
        for (MethodTree m : methods) {
            Set<String> lookedAt = lookedAt(m);
            new TreeScanner<Void, Void>() {
                @Override
                public Void visitArrayAccess(ArrayAccessTree t, Void v) {
                    indices++;
                    ExpressionTree index = t.getIndex();
                    boolean can = index instanceof LiteralTree
                        || index instanceof IdentifierTree && lookedAt.contains(index.toString());
                    Check.due("the index of " + t + " in " + m.getName() + " is looked at", can, true);
                    return super.visitArrayAccess(t, v);
                }
            }.scan(m, null);
        }
        Check.due("indices found", indices > 100, true);
    }

    private static Set<String> lookedAt(MethodTree m) {
        Set<String> names = new TreeSet<>();
        new TreeScanner<Void, Void>() {
            @Override
            public Void visitBinary(BinaryTree t, Void v) {
                switch (t.getKind()) {
                    case LESS_THAN:
                    case LESS_THAN_EQUAL:
                    case GREATER_THAN:
                    case GREATER_THAN_EQUAL:
                        names.add(t.getLeftOperand().toString());
                        break;
                    default:
                        break;
                }
                return super.visitBinary(t, v);
            }

            @Override
            public Void visitMethodInvocation(MethodInvocationTree t, Void v) {
                String called = t.getMethodSelect().toString();
                called = called.substring(called.lastIndexOf('.') + 1);
                if (called.matches("(is[A-Z]\\w*|areTwo|spans|within)")) {
                    for (ExpressionTree a : t.getArguments()) {
                        names.add(a.toString());
                    }
                }
                return super.visitMethodInvocation(t, v);
            }
        }.scan(m, null);
        return names;
    }
}
