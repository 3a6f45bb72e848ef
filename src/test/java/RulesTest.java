import com.sun.source.tree.BinaryTree;
import com.sun.source.tree.CompilationUnitTree;
import com.sun.source.tree.MethodInvocationTree;
import com.sun.source.tree.MethodTree;
import com.sun.source.tree.NewArrayTree;
import com.sun.source.tree.NewClassTree;
import com.sun.source.tree.Tree;
import com.sun.source.util.JavacTask;
import com.sun.source.util.TreePath;
import com.sun.source.util.TreePathScanner;
import com.sun.source.util.Trees;
import java.io.IOException;
import java.nio.file.Path;
import java.util.ArrayDeque;
import java.util.Deque;
import java.util.LinkedHashMap;
import java.util.LinkedHashSet;
import java.util.List;
import java.util.Map;
import java.util.Set;
import javax.lang.model.element.Element;
import javax.lang.model.element.ElementKind;
import javax.lang.model.element.Modifier;
import javax.lang.model.element.VariableElement;
import javax.tools.StandardJavaFileManager;
import javax.tools.ToolProvider;

/** What LANGUAGE.md says of methods and calls, by the tree that the compiler makes of the program. */
public final class RulesTest {
    private static final String PROGRAM = "src/main/java/RentDivision.java";
    private static final String LIBRARY = "java\\.lang\\.(Integer\\.bitCount|Math\\.(abs|floorDiv|floorMod|max|min)|System\\.arraycopy"
            + "|String\\.(charAt|length)|Object\\.<init>|IndexOutOfBoundsException\\.<init>)|java\\.util\\.Arrays\\.fill";
    private static final int DEEPEST = 8, LONGEST = 60, MOST_PARAMETERS = 7;

    private final Trees trees;
    private final CompilationUnitTree unit;
    /** The methods and constructors of the program that each of them calls. */
    private final Map<Element, Set<Element>> calls = new LinkedHashMap<>();
    private final Map<Element, Integer> depths = new LinkedHashMap<>();
    private final Deque<Element> open = new ArrayDeque<>();

    private RulesTest(Trees trees, CompilationUnitTree unit) {
        this.trees = trees;
        this.unit = unit;
    }

    private static String name(Element method) {
        return method.getEnclosingElement() + "." + method.getSimpleName();
    }

    private int lines(Tree tree) {
        long start = trees.getSourcePositions().getStartPosition(unit, tree);
        long end = trees.getSourcePositions().getEndPosition(unit, tree);
        return (int) (unit.getLineMap().getLineNumber(end) - unit.getLineMap().getLineNumber(start)) + 1;
    }

    private final class Reader extends TreePathScanner<Void, Void> {
        private Element method;
        private String body = "";

        @Override
        public Void visitMethod(MethodTree tree, Void none) {
            Element outside = method;
            method = trees.getElement(getCurrentPath());
            body = String.valueOf(tree.getBody()).replaceAll("\\s+", " ");
            calls.put(method, new LinkedHashSet<>());
            Check.due(name(method) + " is short", lines(tree) <= LONGEST, true);
            Check.due(name(method) + " has few parameters", tree.getParameters().size() <= MOST_PARAMETERS, true);
            super.visitMethod(tree, none);
            method = outside;
            return null;
        }

        @Override
        public Void visitMethodInvocation(MethodInvocationTree tree, Void none) {
            called(trees.getElement(new TreePath(getCurrentPath(), tree.getMethodSelect())));
            return super.visitMethodInvocation(tree, none);
        }

        @Override
        public Void visitNewClass(NewClassTree tree, Void none) {
            Element made = trees.getElement(getCurrentPath());
            called(made);
            boolean thrown = getCurrentPath().getParentPath().getLeaf().getKind() == Tree.Kind.THROW;
            boolean constructor = method != null && method.getKind() == ElementKind.CONSTRUCTOR;
            Check.due(name(method) + " makes " + made, thrown != constructor, true);
            return super.visitNewClass(tree, none);
        }

        @Override
        public Void visitNewArray(NewArrayTree tree, Void none) {
            Check.due(name(method) + " makes an array", method.getKind() == ElementKind.CONSTRUCTOR, true);
            return super.visitNewArray(tree, none);
        }

        private void called(Element target) {
            if (calls.containsKey(method) && name(target).startsWith("RentDivision")) {
                calls.get(method).add(target);
                return;
            }
            Check.due(name(method) + " calls " + name(target), name(target).matches(LIBRARY), true);
        }

        /** A divisor is a constant or is tested ahead of the division. */
        @Override
        public Void visitBinary(BinaryTree tree, Void none) {
            if (tree.getKind() == Tree.Kind.DIVIDE || tree.getKind() == Tree.Kind.REMAINDER) {
                String divisor = tree.getRightOperand().toString();
                Element element = trees.getElement(new TreePath(getCurrentPath(), tree.getRightOperand()));
                boolean literal = tree.getRightOperand().getKind() == Tree.Kind.INT_LITERAL && !divisor.equals("0");
                boolean constant = element instanceof VariableElement variable && variable.getConstantValue() instanceof Integer
                        && !variable.getConstantValue().equals(0);
                boolean tested = body.contains("if (" + divisor + " <= 0) { return; }") || body.contains(divisor + " >= 1; ")
                        || divisor.equals("(double)income") && body.contains("income == 0 ? 0.0 : ");
                Check.due(name(method) + " divides by " + divisor, literal || constant || tested, true);
            }
            return super.visitBinary(tree, none);
        }
    }

    /** How many calls stand open at most, with this one. */
    private int depth(Element method) {
        Integer known = depths.get(method);
        if (known != null) {
            return known;
        }
        if (open.contains(method)) {
            Check.due(name(method) + " is recursive", true, false);
            return 0;
        }
        open.push(method);
        int deepest = 0;
        for (Element called : calls.getOrDefault(method, Set.of())) {
            deepest = Math.max(deepest, depth(called));
        }
        open.pop();
        depths.put(method, deepest + 1);
        return deepest + 1;
    }

    private void run() {
        new Reader().scan(unit, null);
        int face = 0;
        for (Element method : calls.keySet()) {
            if (method.getModifiers().contains(Modifier.PUBLIC)) {
                face++;
                Check.due(name(method) + " goes " + depth(method) + " calls deep", depth(method) <= DEEPEST, true);
            }
        }
        Check.due("methods of the face", face, 65);
    }

    public static void main(String[] args) throws IOException {
        var compiler = ToolProvider.getSystemJavaCompiler();
        try (StandardJavaFileManager files = compiler.getStandardFileManager(null, null, null)) {
            JavacTask task = (JavacTask) compiler.getTask(null, files, null, List.of("-proc:none"), null,
                    files.getJavaFileObjects(Path.of(PROGRAM)));
            CompilationUnitTree unit = task.parse().iterator().next();
            task.analyze();
            new RulesTest(Trees.instance(task), unit).run();
        }
        Check.end("RulesTest");
    }
}
