import com.sun.source.tree.ArrayAccessTree;
import com.sun.source.tree.BinaryTree;
import com.sun.source.tree.ClassTree;
import com.sun.source.tree.CompilationUnitTree;
import com.sun.source.tree.CompoundAssignmentTree;
import com.sun.source.tree.ExpressionTree;
import com.sun.source.tree.MethodInvocationTree;
import com.sun.source.tree.MethodTree;
import com.sun.source.tree.NewArrayTree;
import com.sun.source.tree.NewClassTree;
import com.sun.source.tree.Tree;
import com.sun.source.tree.TypeCastTree;
import com.sun.source.util.JavacTask;
import com.sun.source.util.SourcePositions;
import com.sun.source.util.TreePathScanner;
import com.sun.source.util.Trees;
import java.nio.file.Path;
import java.util.EnumSet;
import java.util.LinkedHashMap;
import java.util.List;
import java.util.Map;
import java.util.Set;
import java.util.TreeSet;
import javax.lang.model.element.Element;
import javax.lang.model.element.ElementKind;
import javax.lang.model.element.TypeElement;
import javax.lang.model.type.TypeKind;
import javax.lang.model.type.TypeMirror;
import javax.tools.JavaCompiler;
import javax.tools.StandardJavaFileManager;
import javax.tools.ToolProvider;

/** The rules of LANGUAGE.md that are seen in the parts of the source: what it calls, how deep, and what it looks at first. */
public final class RulesTest {
    private static final int MOST_LINES = 60;
    private static final int MOST_DEPTH = 8;
    /** Of the library that rule 4 allows, what the class uses. */
    private static final Set<String> LIBRARY = Set.of("Math.min", "Math.max", "Math.floorMod", "System.arraycopy", "String.length", "String.charAt");
    private static final Set<Tree.Kind> FORBIDDEN = EnumSet.of(Tree.Kind.TRY, Tree.Kind.THROW, Tree.Kind.LAMBDA_EXPRESSION, Tree.Kind.MEMBER_REFERENCE,
        Tree.Kind.SYNCHRONIZED, Tree.Kind.ASSERT, Tree.Kind.ANNOTATION, Tree.Kind.INSTANCE_OF, Tree.Kind.NULL_LITERAL);
    private static final Set<TypeKind> NUMBERS = EnumSet.of(TypeKind.INT, TypeKind.LONG, TypeKind.CHAR, TypeKind.BYTE, TypeKind.DOUBLE, TypeKind.BOOLEAN);

    private final Due due = new Due();
    private final Map<String, Set<String>> calls = new LinkedHashMap<>();
    private int divisions = 0;
    private int indices = 0;

    public static void main(String[] args) throws Exception {
        new RulesTest().run();
    }

    private void run() throws Exception {
        JavaCompiler compiler = ToolProvider.getSystemJavaCompiler();
        try (StandardJavaFileManager files = compiler.getStandardFileManager(null, null, null)) {
            Iterable<? extends javax.tools.JavaFileObject> source = files.getJavaFileObjects(Path.of("src/main/java/DeBruijnWorkbench.java"));
            JavacTask task = (JavacTask) compiler.getTask(null, files, null, List.of("-proc:none"), null, source);
            Iterable<? extends CompilationUnitTree> units = task.parse();
            task.analyze();
            for (CompilationUnitTree unit : units) {
                new Scanner(unit, Trees.instance(task)).scan(unit, null);
            }
        }
        // Nothing found would mean that nothing was looked at.
        due.that(calls.size() > 100 && divisions > 4 && indices > 15, calls.size() + " methods, " + divisions + " divisions, " + indices + " indices");
        for (String method : calls.keySet()) {
            due.that(depth(method, 0) <= MOST_DEPTH, method + " begins calls that go deeper than " + MOST_DEPTH);
        }
        due.end();
    }

    /** How many methods stand open at once, this one counted; a circle of calls answers more than is allowed. */
    private int depth(String method, int above) {
        int deepest = 1;
        if (above <= MOST_DEPTH) {
            for (String callee : calls.getOrDefault(method, Set.of())) {
                deepest = Math.max(deepest, 1 + depth(callee, above + 1));
            }
        }
        return deepest;
    }

    private final class Scanner extends TreePathScanner<Void, Void> {
        private final CompilationUnitTree unit;
        private final Trees trees;
        private final SourcePositions places;
        private MethodTree method = null;
        private String name = "";

        Scanner(CompilationUnitTree unit, Trees trees) {
            this.unit = unit;
            this.trees = trees;
            this.places = trees.getSourcePositions();
        }

        @Override
        public Void scan(Tree tree, Void nothing) {
            if (tree != null) {
                due.that(!FORBIDDEN.contains(tree.getKind()), "the source holds " + tree.getKind() + ": " + tree);
            }
            return super.scan(tree, nothing);
        }

        @Override
        public Void visitMethod(MethodTree tree, Void nothing) {
            method = tree;
            name = title(trees.getElement(getCurrentPath()));
            due.that(calls.put(name, new TreeSet<>()) == null, "there are two methods " + name);
            long lines = line(places.getEndPosition(unit, tree)) - line(places.getStartPosition(unit, tree)) + 1;
            due.that(lines <= MOST_LINES, name + " has " + lines + " lines");
            super.visitMethod(tree, nothing);
            method = null;
            return null;
        }

        @Override
        public Void visitMethodInvocation(MethodInvocationTree tree, Void nothing) {
            Element called = trees.getElement(new com.sun.source.util.TreePath(getCurrentPath(), tree.getMethodSelect()));
            String title = title(called);
            // Object is what the constructors of all classes call by themselves.
            if (isOwn(called)) {
                due.that(method != null, title + " is called for a field");
                calls.get(name).add(title);
            } else if (!title.equals("Object.<init>")) {
                due.that(LIBRARY.contains(title), name + " calls " + title);
            }
            if (title.equals("Math.floorMod")) {
                checkDivisor(tree.getArguments().get(1));
            }
            return super.visitMethodInvocation(tree, nothing);
        }

        @Override
        public Void visitNewClass(NewClassTree tree, Void nothing) {
            due.that(method == null && tree.getClassBody() == null, name + " makes an object: " + tree);
            return super.visitNewClass(tree, nothing);
        }

        @Override
        public Void visitNewArray(NewArrayTree tree, Void nothing) {
            due.that(method == null, name + " makes an array: " + tree);
            return super.visitNewArray(tree, nothing);
        }

        @Override
        public Void visitClass(ClassTree tree, Void nothing) {
            due.that(tree.getKind() == Tree.Kind.CLASS && tree.getExtendsClause() == null && tree.getImplementsClause().isEmpty(),
                tree.getSimpleName() + " is more than a plain class");
            return super.visitClass(tree, nothing);
        }

        @Override
        public Void visitTypeCast(TypeCastTree tree, Void nothing) {
            due.that(NUMBERS.contains(type(tree).getKind()), name + " casts to " + tree.getType());
            return super.visitTypeCast(tree, nothing);
        }

        @Override
        public Void visitBinary(BinaryTree tree, Void nothing) {
            boolean plain = NUMBERS.contains(type(tree.getLeftOperand()).getKind()) && NUMBERS.contains(type(tree.getRightOperand()).getKind());
            due.that(plain, name + " compares or joins other things than numbers: " + tree);
            if (tree.getKind() == Tree.Kind.DIVIDE || tree.getKind() == Tree.Kind.REMAINDER) {
                checkDivisor(tree.getRightOperand());
            }
            return super.visitBinary(tree, nothing);
        }

        @Override
        public Void visitCompoundAssignment(CompoundAssignmentTree tree, Void nothing) {
            boolean divides = tree.getKind() == Tree.Kind.DIVIDE_ASSIGNMENT || tree.getKind() == Tree.Kind.REMAINDER_ASSIGNMENT;
            due.that(!divides, name + " divides without a look: " + tree);
            return super.visitCompoundAssignment(tree, nothing);
        }

        @Override
        public Void visitArrayAccess(ArrayAccessTree tree, Void nothing) {
            indices++;
            String index = tree.getIndex().toString();
            String body = method == null ? "" : method.getBody().toString();
            boolean looked = body.contains("has(" + index + ")") || body.contains("isSlot(" + index + ")") || body.contains("isRow(" + index + ")")
                || body.contains(index + " < ") || body.contains("!isFull()") && index.equals("size")
                || body.contains("size < 1 ?") && index.startsWith("Math.floorMod(") && index.endsWith(", size)");
            due.that(looked, name + " does not look at the index of " + tree);
            return super.visitArrayAccess(tree, nothing);
        }

        private void checkDivisor(ExpressionTree divisor) {
            divisions++;
            String words = (divisor instanceof TypeCastTree ? ((TypeCastTree) divisor).getExpression() : divisor).toString();
            String body = method == null ? "" : method.getBody().toString();
            due.that(body.contains(words + " < 1") || body.contains(words + " > 0"), name + " does not look at the divisor " + words);
        }

        private TypeMirror type(Tree tree) {
            return trees.getTypeMirror(trees.getPath(unit, tree));
        }

        private long line(long place) {
            return unit.getLineMap().getLineNumber(place);
        }

        private boolean isOwn(Element called) {
            Element owner = called.getEnclosingElement();
            return owner instanceof TypeElement && ((TypeElement) owner).getQualifiedName().toString().startsWith("DeBruijnWorkbench");
        }

        private String title(Element called) {
            due.that(called != null && (called.getKind() == ElementKind.METHOD || called.getKind() == ElementKind.CONSTRUCTOR), "what is called: " + called);
            return called.getEnclosingElement().getSimpleName() + "." + called.getSimpleName();
        }
    }
}
