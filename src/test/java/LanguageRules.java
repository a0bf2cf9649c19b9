import com.sun.source.tree.ArrayAccessTree;
import com.sun.source.tree.AssertTree;
import com.sun.source.tree.AssignmentTree;
import com.sun.source.tree.BinaryTree;
import com.sun.source.tree.CatchTree;
import com.sun.source.tree.ClassTree;
import com.sun.source.tree.CompilationUnitTree;
import com.sun.source.tree.CompoundAssignmentTree;
import com.sun.source.tree.DoWhileLoopTree;
import com.sun.source.tree.ExpressionTree;
import com.sun.source.tree.ForLoopTree;
import com.sun.source.tree.IdentifierTree;
import com.sun.source.tree.ImportTree;
import com.sun.source.tree.InstanceOfTree;
import com.sun.source.tree.LambdaExpressionTree;
import com.sun.source.tree.LiteralTree;
import com.sun.source.tree.MemberReferenceTree;
import com.sun.source.tree.MemberSelectTree;
import com.sun.source.tree.MethodInvocationTree;
import com.sun.source.tree.MethodTree;
import com.sun.source.tree.NewArrayTree;
import com.sun.source.tree.NewClassTree;
import com.sun.source.tree.SynchronizedTree;
import com.sun.source.tree.ThrowTree;
import com.sun.source.tree.Tree;
import com.sun.source.tree.TryTree;
import com.sun.source.tree.TypeCastTree;
import com.sun.source.tree.UnaryTree;
import com.sun.source.tree.VariableTree;
import com.sun.source.tree.WhileLoopTree;
import com.sun.source.util.JavacTask;
import com.sun.source.util.TreePath;
import com.sun.source.util.TreePathScanner;
import com.sun.source.util.Trees;
import java.io.IOException;
import java.nio.charset.StandardCharsets;
import java.nio.file.Files;
import java.nio.file.Path;
import java.util.ArrayDeque;
import java.util.ArrayList;
import java.util.Deque;
import java.util.HashMap;
import java.util.LinkedHashMap;
import java.util.LinkedHashSet;
import java.util.List;
import java.util.Map;
import java.util.Set;
import javax.lang.model.element.Element;
import javax.lang.model.element.ElementKind;
import javax.lang.model.element.ExecutableElement;
import javax.lang.model.element.Modifier;
import javax.lang.model.element.VariableElement;
import javax.lang.model.type.ArrayType;
import javax.lang.model.type.TypeKind;
import javax.lang.model.type.TypeMirror;
import javax.tools.JavaCompiler;
import javax.tools.StandardJavaFileManager;

/**
 * The rules of LANGUAGE.md that can be seen in the text of the class. That text is taken apart by the compiler
 * itself. Rules 7, 9 and 12 can be seen but in part, so runs (AnyCallsTest) look for them, too.
 */
final class LanguageRules extends TreePathScanner<Void, Void> {
    private static final Path SOURCE = Path.of("src", "main", "java", "RoadHouse.java");
    private static final Path DOCUMENT = Path.of("..", "shared", "DOC.md");
    private static final int MOST_LINES = 60;
    private static final int MOST_PARAMETERS = 7;
    private static final int MOST_DEPTH = 8;
    private static final int MOST_CLASSES = 12;
    /** Some twenty, says the rule. */
    private static final int MOST_FIELDS = 24;
    /** Those of rule 6, and the two which the document names beside them. */
    private static final Set<String> EXCEPTIONS = Set.of("IllegalStateException", "IllegalArgumentException", "IndexOutOfBoundsException",
        "ArithmeticException", "UnsupportedOperationException", "NoSuchElementException", "RuntimeException",
        "ArrayIndexOutOfBoundsException", "NegativeArraySizeException");
    private static final Set<String> OF_OBJECTS = Set.of("equals", "hashCode", "toString", "finalize");
    private static final Map<String, Set<String>> LIBRARY = Map.of(
        "String", Set.of("length", "charAt", "isEmpty", "equals", "indexOf", "substring", "toCharArray"),
        "StringBuilder", Set.of("append", "charAt", "setCharAt", "setLength", "deleteCharAt", "reverse", "length", "toString"),
        "ArrayList", Set.of("add", "get", "set", "remove", "size", "isEmpty", "clear"),
        "List", Set.of("add", "get", "set", "remove", "size", "isEmpty", "clear", "of"),
        "System", Set.of("arraycopy"),
        "Arrays", Set.of("copyOf", "copyOfRange", "fill"),
        "Array", Set.of("clone"));

    private final Check check = new Check("LanguageTest");
    private final CompilationUnitTree unit;
    private final Trees trees;
    private final Map<Element, Set<Element>> calls = new LinkedHashMap<>();
    private final Map<Element, Integer> depth = new HashMap<>();
    private final Deque<Element> methods = new ArrayDeque<>();
    private final Set<String> face = new LinkedHashSet<>();
    private final List<ExecutableElement> hidden = new ArrayList<>();
    private int classes;

    private LanguageRules(CompilationUnitTree unit, Trees trees) {
        this.unit = unit;
        this.trees = trees;
    }

    /** Holds a file (or the class's own, if none is named) to the rules; ends with exit code 1, if one is broken. */
    static void look(JavaCompiler compiler, String[] names) throws IOException {
        Path source = names.length > 0 ? Path.of(names[0]) : SOURCE;
        try (StandardJavaFileManager files = compiler.getStandardFileManager(null, null, StandardCharsets.UTF_8)) {
            JavacTask task = (JavacTask) compiler.getTask(null, files, null, List.of("-proc:none"), null, files.getJavaFileObjects(source));
            CompilationUnitTree unit = task.parse().iterator().next();
            task.analyze();
            LanguageRules rules = new LanguageRules(unit, Trees.instance(task));
            rules.signs(Files.readString(source, StandardCharsets.UTF_8));
            rules.wholeFile();
            rules.scan(unit, null);
            rules.names();
            rules.depths();
            rules.check.end();
        }
    }

    private void rule(int number, String what, Tree at, boolean holds) {
        check.due("rule " + number + ", line " + (at == null ? 0 : line(at)) + ": " + what, holds ? 1 : 0, 1);
    }

    private long line(Tree at) {
        return unit.getLineMap().getLineNumber(trees.getSourcePositions().getStartPosition(unit, at));
    }

    private Element element() {
        return trees.getElement(getCurrentPath());
    }

    private void signs(String text) {
        int odd = 0;
        for (int i = 0; i < text.length(); i++) {
            odd += text.charAt(i) > 127 || text.charAt(i) == 0 ? 1 : 0;
        }
        check.due("rule 4: signs above 127", odd, 0);
        check.due("rule 4: signs written by u", text.contains("\\u") ? 1 : 0, 0);
    }

    private void wholeFile() {
        rule(1, "no package", unit, unit.getPackageName() == null);
        rule(1, "one class", unit, unit.getTypeDecls().size() == 1);
        for (ImportTree i : unit.getImports()) {
            String name = i.getQualifiedIdentifier().toString();
            rule(4, name, i, !i.isStatic() && name.startsWith("java.util."));
        }
    }

    // the face, and classes inside

    @Override
    public Void visitClass(ClassTree t, Void none) {
        classes++;
        rule(11, "at most " + MOST_CLASSES + " classes", t, classes <= MOST_CLASSES);
        rule(2, "no class within a method", t, methods.isEmpty());
        Set<Modifier> flags = t.getModifiers().getFlags();
        boolean outer = getCurrentPath().getParentPath().getLeaf() instanceof CompilationUnitTree;
        if (outer) {
            rule(1, "public and final", t, flags.contains(Modifier.PUBLIC) && flags.contains(Modifier.FINAL));
        } else {
            boolean fixed = t.getKind() != Tree.Kind.CLASS || flags.contains(Modifier.STATIC);
            rule(1, "private or package-visible, and static", t, fixed && !flags.contains(Modifier.PUBLIC) && !flags.contains(Modifier.PROTECTED));
        }
        int fields = 0;
        for (Tree member : t.getMembers()) {
            fields += member instanceof VariableTree && !((VariableTree) member).getModifiers().getFlags().contains(Modifier.STATIC) ? 1 : 0;
            rule(5, "no block beside the methods", member, member.getKind() != Tree.Kind.BLOCK);
        }
        rule(11, "some twenty fields", t, fields <= MOST_FIELDS);
        return super.visitClass(t, none);
    }

    private void names() {
        check.due("rule 1: the face is the document's; told " + face, sameFace() ? 1 : 0, 1);
        Set<String> open = new LinkedHashSet<>();
        for (String member : face) {
            open.add(member.replaceAll("\\(.*", "").replaceAll(".* ", ""));
        }
        for (ExecutableElement e : hidden) {
            check.due("rule 1: " + e + " has the name of a public one", e.getModifiers().contains(Modifier.PRIVATE) && open.contains(e.getSimpleName().toString()) ? 1 : 0, 0);
        }
    }

    private boolean sameFace() {
        if (!Files.exists(DOCUMENT)) {
            System.out.println("LanguageTest: there is no " + DOCUMENT + ", so the face is not compared");
            return true;
        }
        try {
            String all = Files.readString(DOCUMENT, StandardCharsets.UTF_8);
            String block = all.substring(all.indexOf("```java") + 7);
            Set<String> due = new LinkedHashSet<>();
            for (String row : block.substring(0, block.indexOf("```")).split("\n")) {
                String member = row.trim().replaceAll(" throws .*", "").replace(";", "").replaceAll(" = .*", "");
                if (member.startsWith("public ") && !member.contains("class")) {
                    due.add(member.substring(7));
                }
            }
            return due.equals(face);
        } catch (IOException e) {
            return false;
        }
    }

    private static boolean isOuter(Element e) {
        return e.getKind() == ElementKind.CLASS && e.getSimpleName().contentEquals("RoadHouse");
    }

    @Override
    public Void visitMethod(MethodTree t, Void none) {
        ExecutableElement e = (ExecutableElement) element();
        long length = unit.getLineMap().getLineNumber(trees.getSourcePositions().getEndPosition(unit, t)) - line(t) + 1;
        rule(11, e + " has " + length + " lines", t, length <= MOST_LINES);
        rule(11, e + "'s parameters", t, t.getParameters().size() <= MOST_PARAMETERS);
        rule(6, e + " is of all objects", t, !OF_OBJECTS.contains(e.getSimpleName().toString()));
        if (isOuter(e.getEnclosingElement())) {
            rule(1, e + " is public or private", t, e.getModifiers().contains(Modifier.PUBLIC) || e.getModifiers().contains(Modifier.PRIVATE));
        }
        if (isOuter(e.getEnclosingElement()) && e.getModifiers().contains(Modifier.PUBLIC)) {
            face.add(signature(t, e));
        } else {
            hidden.add(e);
        }
        if (e.getKind() == ElementKind.METHOD) {
            type(t, e.getReturnType(), e.toString());
        }
        calls.putIfAbsent(e, new LinkedHashSet<>());
        methods.push(e);
        super.visitMethod(t, none);
        methods.pop();
        return null;
    }

    private static String signature(MethodTree t, ExecutableElement e) {
        StringBuilder told = new StringBuilder();
        told.append(e.getKind() == ElementKind.CONSTRUCTOR ? "RoadHouse" : e.getReturnType() + " " + e.getSimpleName()).append('(');
        for (int k = 0; k < t.getParameters().size(); k++) {
            told.append(k == 0 ? "" : ", ").append(t.getParameters().get(k).getType()).append(' ').append(t.getParameters().get(k).getName());
        }
        return told.append(')').toString();
    }

    // types

    @Override
    public Void visitVariable(VariableTree t, Void none) {
        VariableElement e = (VariableElement) element();
        if (e.getKind() == ElementKind.EXCEPTION_PARAMETER || e.getKind() == ElementKind.ENUM_CONSTANT) {
            return super.visitVariable(t, none);
        }
        type(t, e.asType(), t.getName().toString());
        Set<Modifier> flags = e.getModifiers();
        if (e.getKind() == ElementKind.FIELD && isOuter(e.getEnclosingElement())) {
            rule(1, t.getName() + " is public or private", t, flags.contains(Modifier.PUBLIC) || flags.contains(Modifier.PRIVATE));
            if (flags.contains(Modifier.PUBLIC)) {
                face.add("static final " + e.asType() + " " + t.getName());
            }
        }
        if (flags.contains(Modifier.STATIC)) {
            rule(5, t.getName() + " is final", t, flags.contains(Modifier.FINAL));
            rule(5, t.getName() + " is a constant, or a row that is written out", t, e.getConstantValue() != null || isWrittenRow(t, e.asType()));
        }
        return super.visitVariable(t, none);
    }

    private static boolean isWrittenRow(VariableTree t, TypeMirror type) {
        boolean kind = type.getKind() == TypeKind.ARRAY && Set.of("int", "long", "char", "byte").contains(((ArrayType) type).getComponentType().toString());
        return kind && t.getInitializer() instanceof NewArrayTree && ((NewArrayTree) t.getInitializer()).getInitializers() != null;
    }

    private void type(Tree at, TypeMirror type, String name) {
        TypeMirror inner = type;
        int dimensions = 0;
        while (inner.getKind() == TypeKind.ARRAY) {
            inner = ((ArrayType) inner).getComponentType();
            dimensions++;
        }
        boolean number = inner.getKind().isPrimitive() && inner.getKind() != TypeKind.BOOLEAN && inner.getKind() != TypeKind.CHAR;
        boolean own = inner.toString().startsWith("RoadHouse");
        boolean text = Set.of("java.lang.String", "java.lang.StringBuilder").contains(inner.toString());
        boolean list = inner.toString().startsWith("java.util.ArrayList<") || inner.toString().startsWith("java.util.List<");
        boolean fine = dimensions == 0 ? inner.getKind() == TypeKind.VOID || inner.getKind().isPrimitive() || own || text || list
            : dimensions == 1 ? inner.getKind().isPrimitive() || own : dimensions == 2 && number;
        rule(3, name + " is " + type, at, fine);
    }

    private TypeKind kindOf(ExpressionTree t) {
        TypeMirror m = trees.getTypeMirror(new TreePath(getCurrentPath(), t));
        return m == null ? TypeKind.NONE : m.getKind();
    }

    private static boolean isFloating(TypeKind kind) {
        return kind == TypeKind.DOUBLE || kind == TypeKind.FLOAT;
    }

    @Override
    public Void visitBinary(BinaryTree t, Void none) {
        if (isFloating(kindOf(t.getLeftOperand())) || isFloating(kindOf(t.getRightOperand()))) {
            rule(3, t.toString(), t, t.getKind() != Tree.Kind.REMAINDER);
        }
        boolean joins = t.getKind() == Tree.Kind.PLUS && (kindOf(t.getLeftOperand()) == TypeKind.DECLARED || kindOf(t.getRightOperand()) == TypeKind.DECLARED);
        rule(10, t.toString() + " joins texts", t, !joins);
        return super.visitBinary(t, none);
    }

    // what is never changed

    private void assigned(ExpressionTree target) {
        ExpressionTree base = target;
        boolean inside = false;
        while (base instanceof ArrayAccessTree) {
            base = ((ArrayAccessTree) base).getExpression();
            inside = true;
        }
        if (inside && (base instanceof IdentifierTree || base instanceof MemberSelectTree)) {
            Element e = trees.getElement(new TreePath(getCurrentPath(), base));
            rule(5, target + " is never changed", target, e == null || !e.getModifiers().contains(Modifier.STATIC));
        }
    }

    @Override
    public Void visitAssignment(AssignmentTree t, Void none) {
        assigned(t.getVariable());
        return super.visitAssignment(t, none);
    }

    @Override
    public Void visitCompoundAssignment(CompoundAssignmentTree t, Void none) {
        assigned(t.getVariable());
        return super.visitCompoundAssignment(t, none);
    }

    @Override
    public Void visitUnary(UnaryTree t, Void none) {
        if (Set.of(Tree.Kind.POSTFIX_INCREMENT, Tree.Kind.PREFIX_INCREMENT, Tree.Kind.POSTFIX_DECREMENT, Tree.Kind.PREFIX_DECREMENT).contains(t.getKind())) {
            assigned(t.getExpression());
        }
        return super.visitUnary(t, none);
    }

    // exceptions

    @Override
    public Void visitThrow(ThrowTree t, Void none) {
        boolean fine = t.getExpression() instanceof NewClassTree;
        if (fine) {
            NewClassTree made = (NewClassTree) t.getExpression();
            fine = EXCEPTIONS.contains(made.getIdentifier().toString()) && made.getArguments().size() <= 1
                && (made.getArguments().isEmpty() || made.getArguments().get(0) instanceof LiteralTree);
        }
        rule(6, t.toString().trim(), t, fine);
        rule(6, "no throw in a constructor", t, methods.peek() != null && methods.peek().getKind() == ElementKind.METHOD);
        return super.visitThrow(t, none);
    }

    @Override
    public Void visitTry(TryTree t, Void none) {
        rule(6, "no finally, no resources", t, t.getFinallyBlock() == null && t.getResources().isEmpty());
        return super.visitTry(t, none);
    }

    @Override
    public Void visitCatch(CatchTree t, Void none) {
        rule(6, "what the machine throws is not caught", t, !Set.of("RuntimeException", "Exception", "Throwable", "Error", "IndexOutOfBoundsException",
            "ArrayIndexOutOfBoundsException", "NullPointerException", "ArithmeticException", "ClassCastException", "NegativeArraySizeException",
            "ArrayStoreException").contains(t.getParameter().getType().toString()));
        return super.visitCatch(t, none);
    }

    @Override
    public Void visitSynchronized(SynchronizedTree t, Void none) {
        rule(6, "synchronized", t, false);
        return super.visitSynchronized(t, none);
    }

    @Override
    public Void visitAssert(AssertTree t, Void none) {
        rule(6, "assert", t, false);
        return super.visitAssert(t, none);
    }

    @Override
    public Void visitLambdaExpression(LambdaExpressionTree t, Void none) {
        rule(2, "lambda", t, false);
        return super.visitLambdaExpression(t, none);
    }

    @Override
    public Void visitMemberReference(MemberReferenceTree t, Void none) {
        rule(2, "method reference", t, false);
        return super.visitMemberReference(t, none);
    }

    @Override
    public Void visitInstanceOf(InstanceOfTree t, Void none) {
        TypeMirror m = trees.getTypeMirror(new TreePath(getCurrentPath(), t.getType()));
        rule(6, t + " is not among own classes", t, m != null && m.toString().startsWith("RoadHouse"));
        return super.visitInstanceOf(t, none);
    }

    @Override
    public Void visitTypeCast(TypeCastTree t, Void none) {
        TypeMirror m = trees.getTypeMirror(new TreePath(getCurrentPath(), t.getType()));
        rule(6, t + " is not among numbers or own classes", t, m != null && (m.getKind().isPrimitive() || m.toString().startsWith("RoadHouse")));
        return super.visitTypeCast(t, none);
    }

    // loops

    @Override
    public Void visitForLoop(ForLoopTree t, Void none) {
        rule(9, "a loop without an end", t, t.getCondition() != null && !(t.getCondition() instanceof LiteralTree));
        return super.visitForLoop(t, none);
    }

    private void loop(Tree t, ExpressionTree condition) {
        rule(9, "a loop without an end", t, !condition.toString().equals("(true)"));
    }

    @Override
    public Void visitWhileLoop(WhileLoopTree t, Void none) {
        loop(t, t.getCondition());
        return super.visitWhileLoop(t, none);
    }

    @Override
    public Void visitDoWhileLoop(DoWhileLoopTree t, Void none) {
        loop(t, t.getCondition());
        return super.visitDoWhileLoop(t, none);
    }

    // calls: of the library, and among the own methods

    private static boolean isOwn(Element e) {
        Element at = e;
        while (at.getEnclosingElement() != null && at.getEnclosingElement().getKind() != ElementKind.PACKAGE) {
            at = at.getEnclosingElement();
        }
        return isOuter(at);
    }

    private void noteCall(Element e) {
        if (!methods.isEmpty()) {
            calls.get(methods.peek()).add(e);
        }
    }

    @Override
    public Void visitMethodInvocation(MethodInvocationTree t, Void none) {
        Element e = element();
        if (isOwn(e)) {
            noteCall(e);
        } else if (!e.getSimpleName().contentEquals("<init>")) {
            rule(4, e.getEnclosingElement() + "." + e, t, inLibrary((ExecutableElement) e));
        }
        return super.visitMethodInvocation(t, none);
    }

    private static boolean inLibrary(ExecutableElement e) {
        String owner = e.getEnclosingElement().getSimpleName().toString();
        String name = e.getSimpleName().toString();
        if (Set.of("Integer", "Long", "Math").contains(owner)) {
            boolean whole = e.getModifiers().contains(Modifier.STATIC) && !name.endsWith("Exact");
            for (VariableElement p : e.getParameters()) {
                whole &= p.asType().getKind() == TypeKind.INT || p.asType().getKind() == TypeKind.LONG;
            }
            return whole;
        }
        if (owner.equals("Arrays")) {
            String first = e.getParameters().get(0).asType().toString();
            return LIBRARY.get(owner).contains(name) && !first.equals("boolean[]") && !first.equals("java.lang.Object[]") && !first.equals("T[]");
        }
        return LIBRARY.getOrDefault(owner, Set.of()).contains(name);
    }

    @Override
    public Void visitNewClass(NewClassTree t, Void none) {
        Element e = element();
        if (isOwn(e)) {
            noteCall(e);
        } else {
            String name = e.getEnclosingElement().getSimpleName().toString();
            rule(4, "new " + name, t, EXCEPTIONS.contains(name) || Set.of("String", "StringBuilder", "ArrayList").contains(name));
        }
        return super.visitNewClass(t, none);
    }

    private void depths() {
        for (Element e : calls.keySet()) {
            int deep = depthOf(e, new ArrayDeque<>());
            if (e.getModifiers().contains(Modifier.PUBLIC)) {
                check.due("rule 11: " + e + " goes " + deep + " deep", deep <= MOST_DEPTH ? 1 : 0, 1);
            }
        }
    }

    /** How many calls stand open at once below a method, it too; rule 8 has no need of recursion here, so there is none. */
    private int depthOf(Element e, Deque<Element> open) {
        if (open.contains(e)) {
            check.due("rule 8: " + e + " calls itself", 1, 0);
            return 0;
        }
        if (depth.containsKey(e)) {
            return depth.get(e);
        }
        open.push(e);
        int deepest = 0;
        for (Element called : calls.getOrDefault(e, Set.of())) {
            deepest = Math.max(deepest, depthOf(called, open));
        }
        open.pop();
        depth.put(e, deepest + 1);
        return deepest + 1;
    }
}
