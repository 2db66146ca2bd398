import com.sun.source.tree.ArrayTypeTree;
import com.sun.source.tree.BinaryTree;
import com.sun.source.tree.ClassTree;
import com.sun.source.tree.CompilationUnitTree;
import com.sun.source.tree.CompoundAssignmentTree;
import com.sun.source.tree.DoWhileLoopTree;
import com.sun.source.tree.ExpressionTree;
import com.sun.source.tree.ForLoopTree;
import com.sun.source.tree.LiteralTree;
import com.sun.source.tree.MethodInvocationTree;
import com.sun.source.tree.MethodTree;
import com.sun.source.tree.NewArrayTree;
import com.sun.source.tree.NewClassTree;
import com.sun.source.tree.Tree;
import com.sun.source.tree.VariableTree;
import com.sun.source.tree.WhileLoopTree;
import com.sun.source.util.JavacTask;
import com.sun.source.util.SourcePositions;
import com.sun.source.util.TreePath;
import com.sun.source.util.TreePathScanner;
import com.sun.source.util.Trees;
import java.io.IOException;
import java.nio.file.Files;
import java.nio.file.Path;
import java.util.ArrayDeque;
import java.util.Deque;
import java.util.HashMap;
import java.util.HashSet;
import java.util.LinkedHashSet;
import java.util.List;
import java.util.Map;
import java.util.Set;
import javax.lang.model.element.Element;
import javax.lang.model.element.ElementKind;
import javax.lang.model.element.Modifier;
import javax.lang.model.element.VariableElement;
import javax.tools.JavaCompiler;
import javax.tools.StandardJavaFileManager;
import javax.tools.ToolProvider;

/** The rules of LANGUAGE.md that the syntax tree of the class shows; FaceTest asks what reflection shows of them. */
public final class LanguageTest extends TreePathScanner<Void, Void> {
    private static final Path CLASS = Path.of("src/main/java/LuggageTracing.java");
    private static final Checks c = new Checks("LanguageTest");

    // What the class uses of rules 3 and 4, which allow more.
    private static final Set<String> LIBRARY = Set.of("java.lang.Math.min", "java.lang.Math.max", "java.lang.Math.abs",
            "java.lang.Integer.bitCount", "java.util.Arrays.fill", "java.lang.System.arraycopy");
    private static final Set<String> TYPES = Set.of("int", "long", "boolean", "int[]");

    private static final Set<Tree.Kind> FORBIDDEN = Set.of(Tree.Kind.THROW, Tree.Kind.TRY, Tree.Kind.SYNCHRONIZED,
            Tree.Kind.ASSERT, Tree.Kind.LAMBDA_EXPRESSION, Tree.Kind.MEMBER_REFERENCE, Tree.Kind.INSTANCE_OF,
            Tree.Kind.TYPE_CAST, Tree.Kind.STRING_LITERAL, Tree.Kind.FLOAT_LITERAL, Tree.Kind.DOUBLE_LITERAL,
            Tree.Kind.ANNOTATION);

    private static final Set<Tree.Kind> DIVISIONS = Set.of(Tree.Kind.DIVIDE, Tree.Kind.REMAINDER,
            Tree.Kind.DIVIDE_ASSIGNMENT, Tree.Kind.REMAINDER_ASSIGNMENT);

    private final CompilationUnitTree unit;
    private final Trees trees;
    private final Set<String> ownTypes = new HashSet<>();
    private final Map<String, Set<String>> calls = new HashMap<>();
    private final Deque<String> methods = new ArrayDeque<>();
    private boolean inConstructor;

    private LanguageTest(CompilationUnitTree unit, Trees trees) {
        this.unit = unit;
        this.trees = trees;
    }

    public static void main(String[] args) throws IOException {
        JavaCompiler compiler = ToolProvider.getSystemJavaCompiler();
        try (StandardJavaFileManager files = compiler.getStandardFileManager(null, null, null)) {
            JavacTask task = (JavacTask) compiler.getTask(null, files, null, List.of("-proc:none", "--release", "17"),
                    null, files.getJavaFileObjects(CLASS));
            CompilationUnitTree unit = task.parse().iterator().next();
            task.analyze();
            new LanguageTest(unit, Trees.instance(task)).run();
        }
        signs();
        c.end();
    }

    private static void signs() throws IOException {
        c.holds("rule 4: signs 1 to 127 alone",
                Files.readString(CLASS).chars().allMatch(sign -> sign >= 1 && sign <= 127));
    }

    private void run() {
        c.holds("rule 1: no package line", unit.getPackageName() == null);
        c.due("rule 1: classes beside each other", unit.getTypeDecls().size(), 1);
        c.due("rule 4: imports", unit.getImports().size(), 1);
        ClassTree face = (ClassTree) unit.getTypeDecls().get(0);
        addOwnTypes(face);
        c.holds("rule 11: at most twelve classes", ownTypes.size() <= 12);
        scan(unit, null);
        for (String method : calls.keySet()) {
            follow(method, new LinkedHashSet<>());
        }
    }

    private void addOwnTypes(ClassTree type) {
        ownTypes.add(type.getSimpleName().toString());
        for (Tree member : type.getMembers()) {
            if (member instanceof ClassTree) {
                addOwnTypes((ClassTree) member);
            }
        }
    }

    @Override
    public Void scan(Tree tree, Void nothing) {
        if (tree != null && FORBIDDEN.contains(tree.getKind())) {
            c.holds(line(tree) + "rules 2, 3, 4 and 6: no " + tree.getKind(), false);
        }
        return super.scan(tree, nothing);
    }

    @Override
    public Void visitClass(ClassTree type, Void nothing) {
        Tree parent = getCurrentPath().getParentPath().getLeaf();
        c.holds(line(type) + "rule 2: " + type.getSimpleName() + " is no local or anonymous class",
                parent instanceof CompilationUnitTree || parent instanceof ClassTree);
        for (Tree member : type.getMembers()) {
            c.holds(line(member) + "rule 5: no initialiser block", member.getKind() != Tree.Kind.BLOCK);
        }
        return super.visitClass(type, nothing);
    }

    @Override
    public Void visitMethod(MethodTree method, Void nothing) {
        Element element = trees.getElement(getCurrentPath());
        String name = nameOf(element);
        boolean ofTheFace = element.getModifiers().contains(Modifier.PUBLIC);
        long first = lineOf(positions().getStartPosition(unit, method));
        long last = lineOf(positions().getEndPosition(unit, method));
        c.holds(line(method) + "rule 11: " + name + " takes at most seven parameters, or as many as the document says",
                ofTheFace || method.getParameters().size() <= 7);
        c.holds(line(method) + "rule 11: " + name + " has at most sixty lines", last - first < 60);
        calls.putIfAbsent(name, new LinkedHashSet<>());
        methods.push(name);
        inConstructor = element.getKind() == ElementKind.CONSTRUCTOR;
        super.visitMethod(method, nothing);
        inConstructor = false;
        methods.pop();
        return null;
    }

    @Override
    public Void visitVariable(VariableTree variable, Void nothing) {
        VariableElement element = (VariableElement) trees.getElement(getCurrentPath());
        String type = variable.getType().toString();
        boolean ownArray = variable.getType() instanceof ArrayTypeTree
                && ownTypes.contains(((ArrayTypeTree) variable.getType()).getType().toString());
        c.holds(line(variable) + "rule 3: the type " + type + " of " + variable.getName(),
                TYPES.contains(type) || ownTypes.contains(type) || ownArray);
        boolean isStatic = element.getModifiers().contains(Modifier.STATIC);
        c.holds(line(variable) + "rule 5: " + variable.getName() + " is a constant if it is static",
                !isStatic || element.getConstantValue() != null);
        return super.visitVariable(variable, nothing);
    }

    @Override
    public Void visitMethodInvocation(MethodInvocationTree call, Void nothing) {
        Element called = trees.getElement(new TreePath(getCurrentPath(), call.getMethodSelect()));
        String name = nameOf(called);
        boolean own = trees.getPath(called) != null;
        boolean implied = name.equals("java.lang.Object.<init>()");
        c.holds(line(call) + "rule 4: the library's " + name,
                own || implied || LIBRARY.contains(name.substring(0, name.indexOf('('))));
        if (!implied) {
            makeEdge(name);
        }
        return super.visitMethodInvocation(call, nothing);
    }

    @Override
    public Void visitNewClass(NewClassTree made, Void nothing) {
        c.holds(line(made) + "rule 12: objects are made in constructors alone", inConstructor);
        c.holds(line(made) + "rule 4: made is an object of a class inside",
                ownTypes.contains(made.getIdentifier().toString()));
        makeEdge(nameOf(trees.getElement(getCurrentPath())));
        return super.visitNewClass(made, nothing);
    }

    @Override
    public Void visitNewArray(NewArrayTree made, Void nothing) {
        c.holds(line(made) + "rule 12: arrays are made in constructors alone", inConstructor);
        c.holds(line(made) + "rule 3: arrays of one dimension", made.getDimensions().size() <= 1);
        return super.visitNewArray(made, nothing);
    }

    @Override
    public Void visitForLoop(ForLoopTree loop, Void nothing) {
        c.holds(line(loop) + "rule 9: the loop tells its end and counts",
                loop.getCondition() != null && loop.getUpdate().size() == 1);
        return super.visitForLoop(loop, nothing);
    }

    @Override
    public Void visitWhileLoop(WhileLoopTree loop, Void nothing) {
        return withoutLiteralEnd(loop, loop.getCondition().toString(), super.visitWhileLoop(loop, nothing));
    }

    @Override
    public Void visitDoWhileLoop(DoWhileLoopTree loop, Void nothing) {
        return withoutLiteralEnd(loop, loop.getCondition().toString(), super.visitDoWhileLoop(loop, nothing));
    }

    private Void withoutLiteralEnd(Tree loop, String condition, Void nothing) {
        c.holds(line(loop) + "rule 9: the loop's condition " + condition + " compares with a bound",
                condition.contains("<") || condition.contains(">"));
        return nothing;
    }

    @Override
    public Void visitBinary(BinaryTree sum, Void nothing) {
        looksAtDivisor(sum, sum.getRightOperand());
        return super.visitBinary(sum, nothing);
    }

    @Override
    public Void visitCompoundAssignment(CompoundAssignmentTree sum, Void nothing) {
        looksAtDivisor(sum, sum.getExpression());
        return super.visitCompoundAssignment(sum, nothing);
    }

    private void looksAtDivisor(Tree sum, ExpressionTree divisor) {
        if (DIVISIONS.contains(sum.getKind())) {
            c.holds(line(sum) + "rule 7: the divisor of " + sum + " is a number, and not 0",
                    divisor instanceof LiteralTree && !divisor.toString().equals("0"));
        }
    }

    @Override
    public Void visitLiteral(LiteralTree literal, Void nothing) {
        Object value = literal.getValue();
        c.holds(line(literal) + "rule 4: a character's sign is 1 to 127",
                !(value instanceof Character) || (Character) value >= 1 && (Character) value <= 127);
        return super.visitLiteral(literal, nothing);
    }

    private void makeEdge(String called) {
        if (!methods.isEmpty()) {
            calls.get(methods.peek()).add(called);
        }
    }

    /** 'open' are the calls that stand open at once, the library's among them. */
    private void follow(String method, Set<String> open) {
        if (!open.add(method)) {
            c.holds("rule 8: " + method + " doesn't call itself, as it does by " + open, false);
            return;
        }
        c.holds("rule 11: calls go at most eight deep: " + open, open.size() <= 8);
        for (String called : calls.getOrDefault(method, Set.of())) {
            follow(called, open);
        }
        open.remove(method);
    }

    private static String nameOf(Element method) {
        return method.getEnclosingElement() + "." + (method.getKind() == ElementKind.CONSTRUCTOR
                ? "<init>()" : method.toString());
    }

    private SourcePositions positions() {
        return trees.getSourcePositions();
    }

    private String line(Tree tree) {
        return "line " + lineOf(positions().getStartPosition(unit, tree)) + ", ";
    }

    private long lineOf(long position) {
        return position < 0 ? 0 : unit.getLineMap().getLineNumber(position);
    }
}
