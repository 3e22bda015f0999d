import com.sun.source.tree.BinaryTree;
import com.sun.source.tree.ClassTree;
import com.sun.source.tree.CompilationUnitTree;
import com.sun.source.tree.CompoundAssignmentTree;
import com.sun.source.tree.ExpressionTree;
import com.sun.source.tree.IdentifierTree;
import com.sun.source.tree.LiteralTree;
import com.sun.source.tree.MethodInvocationTree;
import com.sun.source.tree.MethodTree;
import com.sun.source.tree.NewArrayTree;
import com.sun.source.tree.NewClassTree;
import com.sun.source.tree.Tree;
import com.sun.source.tree.Tree.Kind;
import com.sun.source.tree.VariableTree;
import com.sun.source.util.JavacTask;
import com.sun.source.util.TreePath;
import com.sun.source.util.TreePathScanner;
import com.sun.source.util.Trees;
import java.io.IOException;
import java.nio.file.Path;
import java.util.ArrayList;
import java.util.EnumSet;
import java.util.List;
import java.util.Map;
import java.util.Set;
import java.util.TreeMap;
import java.util.TreeSet;
import javax.lang.model.element.Element;
import javax.lang.model.element.ElementKind;
import javax.lang.model.element.Modifier;
import javax.lang.model.element.VariableElement;
import javax.tools.JavaCompiler;
import javax.tools.StandardJavaFileManager;
import javax.tools.ToolProvider;

/** The rules of LANGUAGE.md that the compiler's own tree of the class can show; the number of a rule stands ahead. */
public final class LanguageTest extends TreePathScanner<Void, Void> {
    private static final Set<String> LIBRARY = Set.of(
        "java.lang.Integer.bitCount", "java.lang.Math.min", "java.lang.Math.max", "java.lang.Math.floorMod",
        "java.lang.System.arraycopy", "java.util.Arrays.fill", "java.lang.Object.<init>");
    private static final Set<String> TYPES = Set.of(
        "java.lang.Integer", "java.lang.Math", "java.lang.System", "java.util.Arrays");
    private static final Set<Kind> FORBIDDEN = EnumSet.of(
        Kind.THROW, Kind.TRY, Kind.CATCH, Kind.SYNCHRONIZED, Kind.ASSERT, Kind.LAMBDA_EXPRESSION, Kind.MEMBER_REFERENCE,
        Kind.WHILE_LOOP, Kind.DO_WHILE_LOOP, Kind.INSTANCE_OF, Kind.STRING_LITERAL, Kind.FLOAT_LITERAL,
        Kind.DOUBLE_LITERAL, Kind.NULL_LITERAL, Kind.ANNOTATION, Kind.PARAMETERIZED_TYPE);
    /** Here a divisor is no constant, but is tested in the line itself; DIVISORS names the test. */
    private static final Map<String, String> DIVISORS = Map.of(
        "NameHall.partOfFraction", "divisor > 1 ? part / divisor : part",
        "NameHall.commonDivisor", "step < 50 && lesser != 0");
    private static final int DEEPEST = 8, LONGEST = 60, PARAMETERS = 7, CLASSES = 12, FIELDS = 20;

    private final Trees trees;
    private final CompilationUnitTree unit;
    private final Map<String, Set<String>> calls = new TreeMap<>();
    private int classes = 0;

    private LanguageTest(Trees trees, CompilationUnitTree unit) {
        this.trees = trees;
        this.unit = unit;
    }

    public static void main(String[] args) throws IOException {
        JavaCompiler compiler = ToolProvider.getSystemJavaCompiler();
        try (StandardJavaFileManager files = compiler.getStandardFileManager(null, null, null)) {
            List<String> options = List.of("--release", "17", "-proc:none");
            JavacTask task = (JavacTask) compiler.getTask(null, files, null, options, null,
                    files.getJavaFileObjects(Path.of("src/main/java/NameHall.java")));
            CompilationUnitTree unit = task.parse().iterator().next();
            task.analyze();
            LanguageTest test = new LanguageTest(Trees.instance(task), unit);
            test.scan(unit, null);
            test.afterAll();
        }
        Check.end("LanguageTest");
    }

    private void afterAll() throws IOException {
        Check.holds("no package", unit.getPackageName() == null);
        Check.holds("4: signs 1 to 127 alone", unit.getSourceFile().getCharContent(false).chars().allMatch(c -> c > 0 && c < 128));
        Check.holds("11: " + classes + " classes", classes >= 1 && classes <= CLASSES);
        Check.holds("calls were seen", calls.size() > 50);
        for (String method : calls.keySet()) {
            List<String> chain = longestChain(method, new ArrayList<>());
            Check.holds("11: as deep as " + chain, chain.size() <= DEEPEST);
        }
    }

    /** The longest chain of calls from here; a call of one that stands open is recursion, and there is none. */
    private List<String> longestChain(String method, List<String> open) {
        List<String> longest = new ArrayList<>();
        if (open.contains(method)) {
            Check.holds("8: recursion by " + method, false);
            return longest;
        }
        open.add(method);
        for (String next : calls.getOrDefault(method, Set.of())) {
            List<String> chain = longestChain(next, open);
            if (chain.size() > longest.size()) {
                longest = chain;
            }
        }
        open.remove(method);
        List<String> whole = new ArrayList<>(List.of(method));
        whole.addAll(longest);
        return whole;
    }

    private String place(Tree tree) {
        long at = trees.getSourcePositions().getStartPosition(unit, tree);
        return " (line " + unit.getLineMap().getLineNumber(at) + ")";
    }

    private int lines(Tree tree) {
        long from = trees.getSourcePositions().getStartPosition(unit, tree);
        long to = trees.getSourcePositions().getEndPosition(unit, tree);
        return (int) (unit.getLineMap().getLineNumber(to) - unit.getLineMap().getLineNumber(from)) + 1;
    }

    private MethodTree methodAround() {
        for (TreePath path = getCurrentPath(); path != null; path = path.getParentPath()) {
            if (path.getLeaf() instanceof MethodTree m) {
                return m;
            }
        }
        return null;
    }

    private static String nameOf(Element method) {
        return ownerOf(method) + "." + method.getSimpleName();
    }

    private static String ownerOf(Element member) {
        String owner = member.getEnclosingElement().toString();
        return owner.startsWith("NameHall.") ? owner.substring("NameHall.".length()) : owner;
    }

    private String nameOfMethodAround() {
        MethodTree m = methodAround();
        return m == null ? "none" : nameOf(trees.getElement(trees.getPath(unit, m)));
    }

    @Override
    public Void scan(Tree tree, Void nothing) {
        if (tree != null) {
            Check.holds("6, 9: no " + tree.getKind() + place(tree), !FORBIDDEN.contains(tree.getKind()));
        }
        return super.scan(tree, nothing);
    }

    @Override
    public Void visitClass(ClassTree tree, Void nothing) {
        classes++;
        boolean isOutermost = getCurrentPath().getParentPath().getLeaf() == unit;
        Set<Modifier> modifiers = tree.getModifiers().getFlags();
        if (isOutermost) {
            Check.same("1: " + tree.getSimpleName(), modifiers.toString(), "[public, final]");
        } else {
            Check.holds("2: static " + tree.getSimpleName(), modifiers.contains(Modifier.STATIC));
            boolean isSeenOutside = modifiers.contains(Modifier.PUBLIC) || modifiers.contains(Modifier.PROTECTED);
            Check.holds("1: not public " + tree.getSimpleName(), !isSeenOutside);
        }
        Check.holds("2: no local class " + tree.getSimpleName(), methodAround() == null);
        int fields = 0;
        for (Tree member : tree.getMembers()) {
            Check.holds("5: no initialiser block" + place(member), member.getKind() != Kind.BLOCK);
            boolean isField = member instanceof VariableTree v && !v.getModifiers().getFlags().contains(Modifier.STATIC);
            fields += isField ? 1 : 0;
        }
        Check.holds("11: fields of " + tree.getSimpleName(), fields <= FIELDS);
        return super.visitClass(tree, nothing);
    }

    @Override
    public Void visitVariable(VariableTree tree, Void nothing) {
        Element e = trees.getElement(getCurrentPath());
        if (e.getKind() == ElementKind.FIELD && e.getModifiers().contains(Modifier.STATIC)) {
            boolean isConstant = ((VariableElement) e).getConstantValue() != null;
            Check.holds("5: a constant " + tree.getName(), isConstant && e.getModifiers().contains(Modifier.FINAL));
        }
        return super.visitVariable(tree, nothing);
    }

    @Override
    public Void visitMethod(MethodTree tree, Void nothing) {
        Check.holds("11: parameters of " + tree.getName(), tree.getParameters().size() <= PARAMETERS);
        Check.holds("11: lines of " + tree.getName(), lines(tree) <= LONGEST);
        Check.holds("6: no throws of " + tree.getName(), tree.getThrows().isEmpty());
        String name = nameOf(trees.getElement(getCurrentPath()));
        Check.holds("a call tells one method, no other bears its name: " + name,
                name.endsWith("<init>") || !calls.containsKey(name));
        calls.computeIfAbsent(name, n -> new TreeSet<>());
        return super.visitMethod(tree, nothing);
    }

    @Override
    public Void visitMethodInvocation(MethodInvocationTree tree, Void nothing) {
        Element method = trees.getElement(new TreePath(getCurrentPath(), tree.getMethodSelect()));
        String name = nameOf(method);
        if (name.startsWith("java.")) {
            Check.holds("4: the library's " + name + place(tree), LIBRARY.contains(name));
        } else {
            calls.computeIfAbsent(nameOfMethodAround(), n -> new TreeSet<>()).add(name);
        }
        return super.visitMethodInvocation(tree, nothing);
    }

    @Override
    public Void visitIdentifier(IdentifierTree tree, Void nothing) {
        Element e = trees.getElement(getCurrentPath());
        if (e != null && e.getKind().isClass() && e.toString().startsWith("java.")) {
            Check.holds("3, 4: the library's " + e + place(tree), TYPES.contains(e.toString()));
        }
        return super.visitIdentifier(tree, nothing);
    }

    /** What is made, is made with the object: so that a run of calls has room, however long it is. */
    @Override
    public Void visitNewClass(NewClassTree tree, Void nothing) {
        madeWithTheObject(tree);
        Check.holds("2: no anonymous class" + place(tree), tree.getClassBody() == null);
        return super.visitNewClass(tree, nothing);
    }

    @Override
    public Void visitNewArray(NewArrayTree tree, Void nothing) {
        madeWithTheObject(tree);
        for (ExpressionTree length : tree.getDimensions()) {
            Check.holds("7: a length is a constant above 0" + place(tree), constant(length) > 0);
        }
        return super.visitNewArray(tree, nothing);
    }

    private void madeWithTheObject(Tree tree) {
        MethodTree m = methodAround();
        Check.holds("12: made in a constructor alone" + place(tree), m == null || m.getName().contentEquals("<init>"));
    }

    @Override
    public Void visitBinary(BinaryTree tree, Void nothing) {
        if (tree.getKind() == Kind.DIVIDE || tree.getKind() == Kind.REMAINDER) {
            divisor(tree, tree.getRightOperand());
        }
        return super.visitBinary(tree, nothing);
    }

    @Override
    public Void visitCompoundAssignment(CompoundAssignmentTree tree, Void nothing) {
        if (tree.getKind() == Kind.DIVIDE_ASSIGNMENT || tree.getKind() == Kind.REMAINDER_ASSIGNMENT) {
            divisor(tree, tree.getExpression());
        }
        return super.visitCompoundAssignment(tree, nothing);
    }

    private void divisor(Tree tree, ExpressionTree by) {
        String test = DIVISORS.get(nameOfMethodAround());
        boolean isTested = test != null && methodAround().toString().contains(test);
        Check.holds("7: a divisor is a constant above 0, or tested" + place(tree), isTested || constant(by) > 0);
    }

    /** 0 if it is no constant that can be seen here. */
    private long constant(ExpressionTree tree) {
        if (tree instanceof LiteralTree l && l.getValue() instanceof Integer v) {
            return v;
        }
        if (tree instanceof BinaryTree b && b.getKind() == Kind.PLUS) {
            return constant(b.getLeftOperand()) + constant(b.getRightOperand());
        }
        Element e = trees.getElement(trees.getPath(unit, tree));
        return e instanceof VariableElement v && v.getConstantValue() instanceof Integer i ? i : 0;
    }
}
