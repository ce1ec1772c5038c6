import com.sun.source.tree.*;
import com.sun.source.util.JavacTask;
import com.sun.source.util.SourcePositions;
import com.sun.source.util.TreePath;
import com.sun.source.util.TreePathScanner;
import com.sun.source.util.Trees;
import java.nio.file.Files;
import java.nio.file.Path;
import java.util.ArrayList;
import java.util.HashMap;
import java.util.HashSet;
import java.util.LinkedHashSet;
import java.util.List;
import java.util.Map;
import java.util.Set;
import java.util.TreeMap;
import java.util.TreeSet;
import javax.lang.model.element.Element;
import javax.lang.model.element.ElementKind;
import javax.lang.model.element.ExecutableElement;
import javax.lang.model.element.Modifier;
import javax.lang.model.element.TypeElement;
import javax.lang.model.element.VariableElement;
import javax.lang.model.type.ArrayType;
import javax.lang.model.type.TypeKind;
import javax.lang.model.type.TypeMirror;
import javax.tools.JavaCompiler;
import javax.tools.StandardJavaFileManager;
import javax.tools.ToolProvider;

/**
 * The rules of LANGUAGE.md, by their numbers, held against the tree that javac makes of the class. Where the class needs
 * less than a rule allows, the test is as narrow as the class: what is new to it has to be thought of here first.
 */
public final class LanguageTest extends TreePathScanner<Void, Void> {
    private static final Path SOURCE = Path.of("src/main/java/PosterWall.java");
    private static final Set<String> IMPORTS = Set.of("java.util.Arrays", "java.util.ArrayList", "java.util.List");
    private static final Set<String> LIBRARY = Set.of("Math.max", "Math.min", "Math.abs", "Integer.bitCount", "System.arraycopy",
        "Arrays.fill", "Arrays.copyOf", "Arrays.copyOfRange");
    private static final Set<String> FREE = Set.of("equals", "hashCode", "toString");
    private static final Set<String> RINGS = Set.of("PosterWall.obeyedFrom(int,int,int,int)",
        "PosterWall.obeyedBy(int,int,int,int,int)");
    private static final int LINES = 60, PARAMETERS = 7, CLASSES = 12, FIELDS = 20, DEEP = 8, OPEN = 300, LEVELS = 40;

    private final Trees trees;
    private final SourcePositions places;
    private final CompilationUnitTree unit;
    private final Set<String> faceNames = new HashSet<>();
    private final Map<String, Set<String>> calls = new TreeMap<>();
    private final Map<String, ExecutableElement> methods = new HashMap<>();
    private int wrong = 0;
    private int looked = 0;
    private int classes = 0;

    private LanguageTest(Trees trees, CompilationUnitTree unit) {
        this.trees = trees;
        this.places = trees.getSourcePositions();
        this.unit = unit;
    }

    public static void main(String[] args) throws Exception {
        JavaCompiler compiler = ToolProvider.getSystemJavaCompiler();
        try (StandardJavaFileManager files = compiler.getStandardFileManager(null, null, null)) {
            JavacTask task = (JavacTask) compiler.getTask(null, files, null, List.of("-proc:none"), null,
                files.getJavaFileObjects(SOURCE.toFile()));
            CompilationUnitTree unit = task.parse().iterator().next();
            task.analyze();
            LanguageTest test = new LanguageTest(Trees.instance(task), unit);
            test.look();
            System.out.println("LanguageTest: " + test.looked + " looked at, " + test.wrong + " wrong");
            if (test.wrong != 0 || test.looked == 0) System.exit(1);
        }
    }

    private void want(int rule, boolean so, Tree where, String what) {
        looked++;
        if (so) return;
        wrong++;
        long line = where == null ? 0 : unit.getLineMap().getLineNumber(places.getStartPosition(unit, where));
        System.out.println("LANGUAGE.md " + rule + ": line " + line + ": " + what);
    }

    private Element element(Tree tree) {
        return trees.getElement(new TreePath(getCurrentPath(), tree));
    }

    private TypeMirror type(Tree tree) {
        return trees.getTypeMirror(new TreePath(getCurrentPath(), tree));
    }

    private void look() throws Exception {
        want(1, unit.getPackage() == null, null, "a package line");
        want(1, unit.getTypeDecls().size() == 1, null, "more than one class outside");
        want(1, countSources() == 1, null, "more than one file");
        for (ImportTree i : unit.getImports()) {
            want(4, !i.isStatic() && IMPORTS.contains(i.getQualifiedIdentifier().toString()), i, "import of " + i);
        }
        ClassTree face = (ClassTree) unit.getTypeDecls().get(0);
        for (Tree member : face.getMembers()) {
            if (member instanceof MethodTree m && m.getModifiers().getFlags().contains(Modifier.PUBLIC)) {
                faceNames.add(m.getName().toString());
            }
        }
        scan(unit, null);
        want(11, classes <= CLASSES, null, classes + " classes");
        for (String line : Files.readAllLines(SOURCE)) want(4, line.matches("[ -~]*"), null, "other signs: " + line);
        callGraph();
    }

    private static long countSources() throws Exception {
        try (var all = Files.walk(Path.of("src/main"))) {
            return all.filter(Files::isRegularFile).count();
        }
    }

    // ---- rules 1, 2, 5, 11: classes and what they have

    @Override
    public Void visitClass(ClassTree tree, Void none) {
        classes++;
        Tree around = getCurrentPath().getParentPath().getLeaf();
        Set<Modifier> flags = tree.getModifiers().getFlags();
        String name = tree.getSimpleName().toString();
        want(2, !name.isEmpty(), tree, "a class without a name");
        want(2, tree.getKind() == Tree.Kind.CLASS, tree, "a kind of class that this test has not thought of");
        want(12, flags.contains(Modifier.FINAL), tree, name + " could be extended");
        if (around != unit) {
            want(2, around instanceof ClassTree, tree, name + " is local");
            want(2, flags.contains(Modifier.STATIC), tree, name + " is not static");
            want(1, !flags.contains(Modifier.PUBLIC) && !flags.contains(Modifier.PROTECTED), tree, name + " is open");
        }
        int fields = 0;
        for (Tree member : tree.getMembers()) {
            want(5, !(member instanceof BlockTree), member, "an initialiser block");
            if (member instanceof VariableTree v && !v.getModifiers().getFlags().contains(Modifier.STATIC)) fields++;
            if (around == unit) faceMember(member);
        }
        want(11, fields <= FIELDS, tree, name + " has " + fields + " fields");
        return super.visitClass(tree, none);
    }

    private void faceMember(Tree member) {
        if (member instanceof VariableTree v) {
            Set<Modifier> flags = v.getModifiers().getFlags();
            boolean constant = flags.contains(Modifier.PUBLIC) && flags.contains(Modifier.STATIC);
            want(1, constant || flags.contains(Modifier.PRIVATE), v, v.getName() + " is open");
        }
        if (member instanceof MethodTree m) {
            Set<Modifier> flags = m.getModifiers().getFlags();
            want(1, flags.contains(Modifier.PUBLIC) || flags.contains(Modifier.PRIVATE), m, m.getName() + " is open");
        }
    }

    @Override
    public Void visitMethod(MethodTree tree, Void none) {
        String name = tree.getName().toString();
        boolean open = tree.getModifiers().getFlags().contains(Modifier.PUBLIC);
        want(1, open || !faceNames.contains(name) || name.equals("<init>"), tree, name + " bears the name of a public one");
        want(6, !FREE.contains(name), tree, name + " of its own");
        want(11, tree.getParameters().size() <= PARAMETERS, tree, name + " has many parameters");
        if (places.getStartPosition(unit, tree) >= 0 && places.getEndPosition(unit, tree) >= 0) {
            long first = unit.getLineMap().getLineNumber(places.getStartPosition(unit, tree));
            long last = unit.getLineMap().getLineNumber(places.getEndPosition(unit, tree));
            want(11, last - first < LINES, tree, name + " has " + (last - first + 1) + " lines");
        }
        want(6, tree.getThrows().isEmpty(), tree, name + " throws");
        if (tree.getReturnType() != null) kind(tree.getReturnType(), true);
        ExecutableElement me = (ExecutableElement) trees.getElement(getCurrentPath());
        methods.put(key(me), me);
        calls.computeIfAbsent(key(me), k -> new LinkedHashSet<>());
        return super.visitMethod(tree, none);
    }

    @Override
    public Void visitVariable(VariableTree tree, Void none) {
        VariableElement me = (VariableElement) trees.getElement(getCurrentPath());
        kind(tree.getType(), false);
        if (me.getKind() == ElementKind.FIELD && me.getModifiers().contains(Modifier.STATIC)) {
            want(5, me.getModifiers().contains(Modifier.FINAL), tree, tree.getName() + " is not final");
            want(5, me.getConstantValue() != null, tree, tree.getName() + " is no constant");
        }
        return super.visitVariable(tree, none);
    }

    // ---- rules 3, 6, 12: types, words, objects

    private void kind(Tree tree, boolean mayBeNothing) {
        TypeMirror type = type(tree);
        want(3, isAllowed(type) || mayBeNothing && type.getKind() == TypeKind.VOID, tree, "the type " + type);
    }

    private static boolean isAllowed(TypeMirror type) {
        if (type instanceof ArrayType row) return isNumber(row.getComponentType()) || isOwn(row.getComponentType());
        return isNumber(type) || isOwn(type);
    }

    private static boolean isNumber(TypeMirror type) {
        return type.getKind() == TypeKind.INT || type.getKind() == TypeKind.LONG || type.getKind() == TypeKind.BOOLEAN;
    }

    private static boolean isOwn(TypeMirror type) {
        return type.getKind() == TypeKind.DECLARED && type.toString().startsWith("PosterWall");
    }

    private void never(int rule, Tree tree) {
        want(rule, false, tree, "no " + tree.getKind());
    }

    @Override
    public Void visitThrow(ThrowTree tree, Void none) {
        never(6, tree);
        return super.visitThrow(tree, none);
    }

    @Override
    public Void visitTry(TryTree tree, Void none) {
        never(6, tree);
        return super.visitTry(tree, none);
    }

    @Override
    public Void visitSynchronized(SynchronizedTree tree, Void none) {
        never(6, tree);
        return super.visitSynchronized(tree, none);
    }

    @Override
    public Void visitAssert(AssertTree tree, Void none) {
        never(6, tree);
        return super.visitAssert(tree, none);
    }

    @Override
    public Void visitInstanceOf(InstanceOfTree tree, Void none) {
        never(6, tree);
        return super.visitInstanceOf(tree, none);
    }

    @Override
    public Void visitLambdaExpression(LambdaExpressionTree tree, Void none) {
        never(2, tree);
        return super.visitLambdaExpression(tree, none);
    }

    @Override
    public Void visitMemberReference(MemberReferenceTree tree, Void none) {
        never(2, tree);
        return super.visitMemberReference(tree, none);
    }

    @Override
    public Void visitSwitch(SwitchTree tree, Void none) {
        want(10, isNumber(type(tree.getExpression())), tree, "a switch on no number");
        return super.visitSwitch(tree, none);
    }

    @Override
    public Void visitSwitchExpression(SwitchExpressionTree tree, Void none) {
        never(10, tree);
        return super.visitSwitchExpression(tree, none);
    }

    @Override
    public Void visitLiteral(LiteralTree tree, Void none) {
        boolean plain = tree.getKind() == Tree.Kind.INT_LITERAL || tree.getKind() == Tree.Kind.LONG_LITERAL
            || tree.getKind() == Tree.Kind.CHAR_LITERAL || tree.getKind() == Tree.Kind.BOOLEAN_LITERAL;
        want(7, plain, tree, "a literal that is null, a text or no whole number: " + tree);
        return super.visitLiteral(tree, none);
    }

    @Override
    public Void visitTypeCast(TypeCastTree tree, Void none) {
        want(6, type(tree.getType()).getKind().isPrimitive(), tree, "a cast of an object");
        return super.visitTypeCast(tree, none);
    }

    /** Stricter than the rule: an object makes all that it needs when it is made, and its calls make none. */
    @Override
    public Void visitNewClass(NewClassTree tree, Void none) {
        want(2, tree.getClassBody() == null, tree, "a class without a name");
        want(3, isOwn(type(tree)), tree, "new " + type(tree));
        want(12, isInMaking(), tree, "an object made by a call");
        callTo(element(tree), tree);
        return super.visitNewClass(tree, none);
    }

    @Override
    public Void visitNewArray(NewArrayTree tree, Void none) {
        want(12, isInMaking(), tree, "a row made by a call");
        return super.visitNewArray(tree, none);
    }

    /** The object itself is only named to tell its field from a parameter. */
    @Override
    public Void visitIdentifier(IdentifierTree tree, Void none) {
        if (tree.getName().contentEquals("this")) {
            want(12, getCurrentPath().getParentPath().getLeaf() instanceof MemberSelectTree, tree, "the object is handed out");
        }
        return super.visitIdentifier(tree, none);
    }

    private boolean isInMaking() {
        MethodTree around = methodAround();
        return around == null || around.getName().contentEquals("<init>");
    }

    private MethodTree methodAround() {
        for (TreePath p = getCurrentPath(); p != null; p = p.getParentPath()) if (p.getLeaf() instanceof MethodTree m) return m;
        return null;
    }

    // ---- rules 7, 9, 10: divisors, loops, sums

    @Override
    public Void visitBinary(BinaryTree tree, Void none) {
        want(10, isNumber(type(tree)), tree, "no number: " + tree);
        boolean like = tree.getKind() == Tree.Kind.EQUAL_TO || tree.getKind() == Tree.Kind.NOT_EQUAL_TO;
        if (like) want(6, type(tree.getLeftOperand()).getKind().isPrimitive(), tree, "objects compared: " + tree);
        if (tree.getKind() == Tree.Kind.DIVIDE || tree.getKind() == Tree.Kind.REMAINDER) divisor(tree.getRightOperand());
        return super.visitBinary(tree, none);
    }

    @Override
    public Void visitCompoundAssignment(CompoundAssignmentTree tree, Void none) {
        boolean divides = tree.getKind() == Tree.Kind.DIVIDE_ASSIGNMENT || tree.getKind() == Tree.Kind.REMAINDER_ASSIGNMENT;
        if (divides) divisor(tree.getExpression());
        return super.visitCompoundAssignment(tree, none);
    }

    /** A constant that is not 0, or a variable whose own method compares it with 0 or takes no less than 1 for it. */
    private void divisor(ExpressionTree tree) {
        Element me = element(tree);
        Object constant = me instanceof VariableElement v ? v.getConstantValue() : null;
        boolean sure = constant instanceof Integer n && n != 0;
        String body = String.valueOf(methodAround());
        sure |= me != null && (body.contains(me + " != 0") || body.contains(me + " = Math.max(1, "));
        want(7, sure, tree, "a divisor that was not looked at: " + tree);
    }

    @Override
    public Void visitWhileLoop(WhileLoopTree tree, Void none) {
        never(9, tree);
        return super.visitWhileLoop(tree, none);
    }

    @Override
    public Void visitDoWhileLoop(DoWhileLoopTree tree, Void none) {
        never(9, tree);
        return super.visitDoWhileLoop(tree, none);
    }

    /** One counter, that goes up or down by each step and only there, against a bound. */
    @Override
    public Void visitForLoop(ForLoopTree tree, Void none) {
        boolean counted = tree.getInitializer().size() == 1 && tree.getInitializer().get(0) instanceof VariableTree
            && tree.getUpdate().size() == 1 && tree.getCondition() != null;
        want(9, counted, tree, "a loop without a counter");
        if (!counted) return super.visitForLoop(tree, none);
        String counter = ((VariableTree) tree.getInitializer().get(0)).getName().toString();
        String step = tree.getUpdate().get(0).toString().replace(";", "");
        want(9, step.matches(counter + "(\\+\\+|--| \\+= [1-9]\\d*)"), tree, "a step " + step);
        String condition = " " + tree.getCondition() + " ";
        want(9, condition.matches(".*\\b" + counter + "( \\+ 1)? (<|<=|>|>=) .*") && !condition.contains("||"), tree,
            "no bound in " + condition);
        want(9, !tree.getStatement().toString().matches("(?s).*(?<![.\\w])" + counter + "(\\+\\+|--| [-+*/%&|^]?= ).*"), tree,
            "the counter " + counter + " is changed in the loop");
        return super.visitForLoop(tree, none);
    }

    // ---- rules 4, 8, 11, 12: calls

    private static String key(ExecutableElement method) {
        return method.getEnclosingElement().getSimpleName() + "." + method;
    }

    @Override
    public Void visitMethodInvocation(MethodInvocationTree tree, Void none) {
        callTo(element(tree.getMethodSelect()), tree);
        return super.visitMethodInvocation(tree, none);
    }

    private void callTo(Element called, Tree where) {
        if (!(called instanceof ExecutableElement method)) {
            want(4, false, where, "a call of what is no method: " + where);
            return;
        }
        TypeElement owner = (TypeElement) method.getEnclosingElement();
        String name = owner.getSimpleName() + "." + method.getSimpleName();
        boolean own = owner.getQualifiedName().toString().startsWith("PosterWall");
        if (name.equals("Object.<init>")) return;
        want(4, own || LIBRARY.contains(name), where, "a call of " + name);
        MethodTree around = methodAround();
        if (around == null) return;
        ExecutableElement from = (ExecutableElement) trees.getElement(pathOf(around));
        calls.computeIfAbsent(key(from), k -> new LinkedHashSet<>()).add(own ? key(method) : name);
    }

    private TreePath pathOf(MethodTree method) {
        TreePath p = getCurrentPath();
        while (p.getLeaf() != method) p = p.getParentPath();
        return p;
    }

    private void callGraph() {
        int deepest = 0;
        Set<String> rings = new TreeSet<>();
        for (String from : calls.keySet()) deepest = Math.max(deepest, deep(from, new ArrayList<>(), rings));
        want(8, rings.equals(RINGS), null, "these call one another: " + rings);
        for (String ring : rings) {
            ExecutableElement method = methods.get(ring);
            want(8, method != null && method.getModifiers().contains(Modifier.PRIVATE), null, ring + " calls itself and is open");
            want(8, method != null && !method.getParameters().isEmpty(), null, ring + " calls itself without telling how deep");
        }
        want(11, deepest <= DEEP, null, "calls go " + deepest + " deep");
        want(8, deepest + rings.size() * LEVELS < OPEN, null, "calls that stand open at once");
    }

    /** The longest row of calls from a method on, of one that calls itself once; those that do come to the rings. */
    private int deep(String method, List<String> ahead, Set<String> rings) {
        int at = ahead.indexOf(method);
        if (at >= 0) {
            rings.addAll(ahead.subList(at, ahead.size()));
            return 0;
        }
        ahead.add(method);
        int deepest = 0;
        for (String called : calls.getOrDefault(method, Set.of())) deepest = Math.max(deepest, deep(called, ahead, rings));
        ahead.remove(ahead.size() - 1);
        return 1 + deepest;
    }
}
