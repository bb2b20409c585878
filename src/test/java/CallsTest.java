import com.sun.source.tree.BinaryTree;
import com.sun.source.tree.ClassTree;
import com.sun.source.tree.CompilationUnitTree;
import com.sun.source.tree.ExpressionTree;
import com.sun.source.tree.ForLoopTree;
import com.sun.source.tree.LambdaExpressionTree;
import com.sun.source.tree.LiteralTree;
import com.sun.source.tree.MethodInvocationTree;
import com.sun.source.tree.MethodTree;
import com.sun.source.tree.NewArrayTree;
import com.sun.source.tree.NewClassTree;
import com.sun.source.tree.Tree;
import com.sun.source.tree.VariableTree;
import com.sun.source.tree.WhileLoopTree;
import com.sun.source.util.JavacTask;
import com.sun.source.util.TreePath;
import com.sun.source.util.TreePathScanner;
import com.sun.source.util.Trees;
import java.io.File;
import java.io.IOException;
import java.util.ArrayList;
import java.util.HashMap;
import java.util.List;
import java.util.Map;
import java.util.Set;
import java.util.TreeSet;
import javax.lang.model.element.Element;
import javax.lang.model.element.ElementKind;
import javax.lang.model.element.VariableElement;
import javax.tools.JavaCompiler;
import javax.tools.StandardJavaFileManager;
import javax.tools.ToolProvider;

// The rules of LANGUAGE.md that show in the compiler's tree of the class: how deep calls go, that
// none comes back to itself, what of the library is called, and loops, divisors and new arrays.
public final class CallsTest {
    private static final File SOURCE = new File("src/main/java/StillRoom.java");
    private static final int DEEPEST = 8;
    private static final Set<String> LIBRARY = Set.of("java.lang.Math.min", "java.lang.Math.max",
            "java.lang.Math.abs", "java.lang.Math.floorMod", "java.lang.Integer.bitCount",
            "java.lang.System.arraycopy");
    private static final Set<String> TYPES = Set.of("int", "long", "boolean", "char", "int[]", "byte[]",
            "StillRoom.House", "StillRoom.Mind", "StillRoom.Text", "StillRoom.Pairs", "StillRoom.Choices");
    private static int wrong = 0;

    public static void main(String[] args) throws IOException {
        JavaCompiler compiler = ToolProvider.getSystemJavaCompiler();
        try (StandardJavaFileManager files = compiler.getStandardFileManager(null, null, null)) {
            JavacTask task = (JavacTask) compiler.getTask(null, files, null, List.of("--release", "17"), null,
                    files.getJavaFileObjects(SOURCE));
            List<CompilationUnitTree> units = new ArrayList<>();
            task.parse().forEach(units::add);
            task.analyze();
            Look look = new Look(Trees.instance(task));
            look.scan(units, null);
            depths(look.calls);
        }
        System.out.println(wrong == 0 ? "the calls keep to their rules" : wrong + " rules are broken");
        if (wrong != 0) {
            System.exit(1);
        }
    }

    private static void must(boolean right, String what) {
        if (!right) {
            wrong++;
            System.out.println(what);
        }
    }

    private static void depths(Map<String, Set<String>> calls) {
        must(calls.size() > 32, "only " + calls.size() + " methods were seen");
        for (String method : calls.keySet()) {
            int depth = depth(method, calls, 1);
            must(depth <= DEEPEST, method + " goes " + depth + " deep");
        }
    }

    /** How many calls stand open at once below a method, it too; far too many if it is a recursion. */
    private static int depth(String method, Map<String, Set<String>> calls, int above) {
        int deepest = 1;
        if (above <= 2 * DEEPEST) {
            for (String called : calls.getOrDefault(method, Set.of())) {
                deepest = Math.max(deepest, 1 + depth(called, calls, above + 1));
            }
        }
        return deepest;
    }

    private static final class Look extends TreePathScanner<Void, Void> {
        private final Trees trees;
        /** Of each method, by its class and name: the methods that it calls. */
        final Map<String, Set<String>> calls = new HashMap<>();
        private String inside = "";

        Look(Trees trees) {
            this.trees = trees;
        }

        private static String nameOf(Element method) {
            return method.getEnclosingElement() + "." + method.getSimpleName();
        }

        private Element element() {
            return trees.getElement(getCurrentPath());
        }

        private void called(Element method) {
            calls.computeIfAbsent(inside, name -> new TreeSet<>()).add(nameOf(method));
        }

        @Override
        public Void visitMethod(MethodTree tree, Void nothing) {
            String outside = inside;
            inside = nameOf(element());
            calls.computeIfAbsent(inside, name -> new TreeSet<>());
            super.visitMethod(tree, nothing);
            inside = outside;
            return null;
        }

        @Override
        public Void visitMethodInvocation(MethodInvocationTree tree, Void nothing) {
            Element method = element();
            String name = nameOf(method);
            boolean superCall = name.equals("java.lang.Object.<init>");
            if (name.startsWith("StillRoom.")) {
                called(method);
            } else {
                must(superCall || LIBRARY.contains(name), "not allowed: " + name);
            }
            return super.visitMethodInvocation(tree, nothing);
        }

        @Override
        public Void visitNewClass(NewClassTree tree, Void nothing) {
            must(nameOf(element()).startsWith("StillRoom."), "not allowed: " + tree);
            called(element());
            return super.visitNewClass(tree, nothing);
        }

        @Override
        public Void visitVariable(VariableTree tree, Void nothing) {
            String type = element().asType().toString();
            must(TYPES.contains(type), "a type that was not looked at: " + tree);
            return super.visitVariable(tree, nothing);
        }

        @Override
        public Void visitNewArray(NewArrayTree tree, Void nothing) {
            for (ExpressionTree length : tree.getDimensions()) {
                must(isConstant(length, getCurrentPath()), "a length that may be wrong: " + tree);
            }
            return super.visitNewArray(tree, nothing);
        }

        @Override
        public Void visitBinary(BinaryTree tree, Void nothing) {
            if (tree.getKind() == Tree.Kind.DIVIDE || tree.getKind() == Tree.Kind.REMAINDER) {
                ExpressionTree divisor = tree.getRightOperand();
                must(isConstant(divisor, getCurrentPath()) && !divisor.toString().equals("0"),
                        "a divisor that may be 0: " + tree);
            }
            return super.visitBinary(tree, nothing);
        }

        /** A number, a constant of the class, or what is reckoned of such: known when it is compiled. */
        private boolean isConstant(ExpressionTree tree, TreePath parent) {
            TreePath path = new TreePath(parent, tree);
            if (tree instanceof LiteralTree) {
                return true;
            }
            if (tree instanceof BinaryTree both) {
                return isConstant(both.getLeftOperand(), path) && isConstant(both.getRightOperand(), path);
            }
            return trees.getElement(path) instanceof VariableElement field
                    && field.getKind() == ElementKind.FIELD && field.getConstantValue() != null;
        }

        @Override
        public Void visitWhileLoop(WhileLoopTree tree, Void nothing) {
            must(tree.getCondition().toString().contains("<"), "a loop without a bound: " + tree.getCondition());
            return super.visitWhileLoop(tree, nothing);
        }

        @Override
        public Void visitForLoop(ForLoopTree tree, Void nothing) {
            must(tree.getCondition() != null && tree.getCondition().toString().contains("<")
                    && tree.getUpdate().size() == 1, "a loop without a bound: " + tree.getCondition());
            return super.visitForLoop(tree, nothing);
        }

        @Override
        public Void visitLambdaExpression(LambdaExpressionTree tree, Void nothing) {
            must(false, "not allowed: " + tree);
            return super.visitLambdaExpression(tree, nothing);
        }

        @Override
        public Void visitClass(ClassTree tree, Void nothing) {
            must(tree.getExtendsClause() == null && tree.getImplementsClause().isEmpty(),
                    tree.getSimpleName() + " could be overridden");
            return super.visitClass(tree, nothing);
        }
    }
}
