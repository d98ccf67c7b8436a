import com.sun.source.tree.AssertTree;
import com.sun.source.tree.BinaryTree;
import com.sun.source.tree.BlockTree;
import com.sun.source.tree.ClassTree;
import com.sun.source.tree.CompilationUnitTree;
import com.sun.source.tree.CompoundAssignmentTree;
import com.sun.source.tree.DoWhileLoopTree;
import com.sun.source.tree.ExpressionTree;
import com.sun.source.tree.ForLoopTree;
import com.sun.source.tree.ImportTree;
import com.sun.source.tree.InstanceOfTree;
import com.sun.source.tree.LambdaExpressionTree;
import com.sun.source.tree.LiteralTree;
import com.sun.source.tree.MemberReferenceTree;
import com.sun.source.tree.MethodInvocationTree;
import com.sun.source.tree.MethodTree;
import com.sun.source.tree.NewArrayTree;
import com.sun.source.tree.NewClassTree;
import com.sun.source.tree.ParenthesizedTree;
import com.sun.source.tree.SynchronizedTree;
import com.sun.source.tree.ThrowTree;
import com.sun.source.tree.Tree;
import com.sun.source.tree.TryTree;
import com.sun.source.tree.TypeCastTree;
import com.sun.source.tree.VariableTree;
import com.sun.source.tree.WhileLoopTree;
import com.sun.source.util.JavacTask;
import com.sun.source.util.TreePath;
import com.sun.source.util.TreePathScanner;
import com.sun.source.util.Trees;
import java.io.IOException;
import java.lang.reflect.Array;
import java.lang.reflect.Field;
import java.nio.file.Path;
import java.util.ArrayDeque;
import java.util.IdentityHashMap;
import java.util.LinkedHashMap;
import java.util.LinkedHashSet;
import java.util.List;
import java.util.Map;
import java.util.Set;
import javax.lang.model.element.Element;
import javax.lang.model.element.ElementKind;
import javax.lang.model.element.ExecutableElement;
import javax.lang.model.element.Modifier;
import javax.lang.model.element.TypeElement;
import javax.lang.model.type.ArrayType;
import javax.lang.model.type.DeclaredType;
import javax.lang.model.type.TypeMirror;
import javax.tools.JavaCompiler;
import javax.tools.StandardJavaFileManager;
import javax.tools.ToolProvider;

/**
 * Those rules of LANGUAGE.md that can be seen in the program's tree, as the compiler reads it. Where the program keeps
 * to less than a rule leaves (no recursion, no object made by a call, no cast of a reference), the test asks for this.
 */
final class LanguageTest extends TreePathScanner<Void, Void> {
    private static final Path PROGRAM = Path.of("src/main/java/TurnedRows.java");
    private static final int MOST_LINES = 60, MOST_PARAMETERS = 7, MOST_CALLS_DEEP = 8, MOST_CLASSES = 12, MOST_FIELDS = 20;

    private static final Set<String> TYPES = Set.of("java.lang.String", "java.lang.StringBuilder", "java.lang.Integer",
            "java.util.ArrayList", "java.util.List");
    private static final Set<String> IMPORTS = Set.of("java.util.Arrays", "java.util.ArrayList", "java.util.List",
            "java.util.Iterator");
    private static final Map<String, Set<String>> LIBRARY = Map.of(
            "java.lang.String", Set.of("length", "charAt", "isEmpty", "equals", "indexOf", "substring", "toCharArray"),
            "java.lang.StringBuilder", Set.of("append", "charAt", "setCharAt", "setLength", "deleteCharAt", "reverse",
                    "length", "toString"),
            "java.util.ArrayList", Set.of("add", "get", "set", "remove", "size", "isEmpty", "clear"),
            "java.util.List", Set.of("add", "get", "set", "remove", "size", "isEmpty", "clear", "of"),
            "java.lang.System", Set.of("arraycopy"),
            "java.util.Arrays", Set.of("copyOf", "copyOfRange", "fill"),
            "java.lang.Math", Set.of("max", "min", "abs", "floorDiv", "floorMod"),
            "java.lang.Integer", Set.of("compare", "max", "min", "bitCount", "signum"),
            "java.lang.Long", Set.of("compare", "max", "min", "bitCount", "signum"));

    private final CompilationUnitTree unit;
    private final Trees trees;
    private int classes = 0;
    /** The program's own methods, and those of them that each calls. */
    private final Map<Element, Set<Element>> calls = new LinkedHashMap<>();

    private LanguageTest(CompilationUnitTree unit, Trees trees) {
        this.unit = unit;
        this.trees = trees;
    }

    public static void main(String[] args) throws IOException {
        JavaCompiler compiler = ToolProvider.getSystemJavaCompiler();
        try (StandardJavaFileManager files = compiler.getStandardFileManager(null, null, null)) {
            JavacTask task = (JavacTask) compiler.getTask(null, files, null, List.of("-proc:none"), null,
                    files.getJavaFileObjects(PROGRAM));
            CompilationUnitTree unit = task.parse().iterator().next();
            task.analyze();
            LanguageTest test = new LanguageTest(unit, Trees.instance(task));
            test.rule1And2TheFile();
            test.scan(unit, null);
            test.rule8NoRecursion();
            test.rule11AsManyAsItLeaves();
        }
        rule12WhatAnObjectIs();
        Checks.end();
    }

    private void refuse(int rule, Tree tree, String what) {
        long line = unit.getLineMap().getLineNumber(trees.getSourcePositions().getStartPosition(unit, tree));
        Checks.dueText("rule " + rule + ", line " + line, what, "as it leaves");
    }

    private void rule1And2TheFile() {
        Checks.due("rule 1: package lines", unit.getPackage() == null ? 0 : 1, 0);
        Checks.due("rule 1: classes of the file", unit.getTypeDecls().size(), 1);
        for (ImportTree line : unit.getImports()) {
            if (line.isStatic() || !IMPORTS.contains(line.getQualifiedIdentifier().toString())) {
                refuse(4, line, line.toString());
            }
        }
    }

    private TypeMirror typeOf(Tree tree) {
        return trees.getTypeMirror(new TreePath(getCurrentPath(), tree));
    }

    private Element elementOf(Tree tree) {
        return trees.getElement(new TreePath(getCurrentPath(), tree));
    }

    private static boolean isOwn(Element element) {
        Element outermost = element;
        while (outermost.getEnclosingElement() != null && outermost.getEnclosingElement().getKind() != ElementKind.PACKAGE) {
            outermost = outermost.getEnclosingElement();
        }
        return outermost.getSimpleName().contentEquals("TurnedRows");
    }

    private static String nameOf(TypeMirror type) {
        return type instanceof DeclaredType declared
                ? ((TypeElement) declared.asElement()).getQualifiedName().toString() : type.toString();
    }

    // ---- rules 1 and 2: classes and methods

    @Override
    public Void visitClass(ClassTree tree, Void none) {
        classes++;
        Set<Modifier> modifiers = tree.getModifiers().getFlags();
        if (tree != unit.getTypeDecls().get(0)) {
            Tree.Kind parent = getCurrentPath().getParentPath().getLeaf().getKind();
            if (parent != Tree.Kind.CLASS || tree.getKind() == Tree.Kind.CLASS && !modifiers.contains(Modifier.STATIC)) {
                refuse(2, tree, "a class that is not a static one inside another");
            }
            if (modifiers.contains(Modifier.PUBLIC) || modifiers.contains(Modifier.PROTECTED)) {
                refuse(1, tree, "a public or protected class " + tree.getSimpleName());
            }
        }
        int fields = 0;
        for (Tree member : tree.getMembers()) {
            if (member instanceof BlockTree) {
                refuse(5, member, "a block outside a method");
            }
            if (member instanceof VariableTree field && !field.getModifiers().getFlags().contains(Modifier.STATIC)) {
                fields++;
            }
        }
        if (fields > MOST_FIELDS) {
            refuse(11, tree, fields + " fields of " + tree.getSimpleName());
        }
        return super.visitClass(tree, none);
    }

    @Override
    public Void visitMethod(MethodTree tree, Void none) {
        calls.putIfAbsent(trees.getElement(getCurrentPath()), new LinkedHashSet<>());
        if (Set.of("equals", "hashCode", "toString").contains(tree.getName().toString())) {
            refuse(6, tree, "an own " + tree.getName());
        }
        if (!tree.getThrows().isEmpty() || tree.getModifiers().getFlags().contains(Modifier.SYNCHRONIZED)) {
            refuse(6, tree, "a method that throws, or is synchronized: " + tree.getName());
        }
        if (tree.getParameters().size() > MOST_PARAMETERS) {
            refuse(11, tree, tree.getParameters().size() + " parameters of " + tree.getName());
        }
        int lines = tree.toString().strip().split("\n").length;
        if (lines > MOST_LINES) {
            refuse(11, tree, lines + " lines of " + tree.getName());
        }
        return super.visitMethod(tree, none);
    }

    // ---- rules 3 and 5: types and fields

    @Override
    public Void visitVariable(VariableTree tree, Void none) {
        Element variable = trees.getElement(getCurrentPath());
        Set<Modifier> modifiers = variable.getModifiers();
        if (!isLeft(variable.asType(), true)) {
            refuse(3, tree, "the type " + variable.asType());
        }
        if (modifiers.contains(Modifier.STATIC)) {
            boolean constant = Set.of("int", "long", "boolean", "char", "java.lang.String", "int[]", "long[]", "char[]",
                    "byte[]").contains(variable.asType().toString());
            if (!modifiers.contains(Modifier.FINAL) || !constant) {
                refuse(5, tree, "the static field " + tree.getName());
            }
        }
        return super.visitVariable(tree, none);
    }

    private static boolean isLeft(TypeMirror type, boolean mayBeTwoDimensions) {
        if (type instanceof ArrayType array) {
            boolean numbers = array.getComponentType() instanceof ArrayType inner
                    && inner.getComponentType().getKind().isPrimitive();
            return numbers ? mayBeTwoDimensions
                    : !(array.getComponentType() instanceof ArrayType) && isLeft(array.getComponentType(), false);
        }
        return type.getKind().isPrimitive() || TYPES.contains(nameOf(type))
                || type instanceof DeclaredType declared && isOwn(declared.asElement());
    }

    // ---- rule 4: the library

    @Override
    public Void visitMethodInvocation(MethodInvocationTree tree, Void none) {
        ExecutableElement called = (ExecutableElement) trees.getElement(getCurrentPath());
        TypeElement owner = (TypeElement) called.getEnclosingElement();
        String name = called.getSimpleName().toString();
        if (isOwn(owner)) {
            noteCall(called);
        } else if (!name.equals("<init>")
                && !LIBRARY.getOrDefault(owner.getQualifiedName().toString(), Set.of()).contains(name)) {
            refuse(4, tree, owner + "." + name);
        }
        return super.visitMethodInvocation(tree, none);
    }

    private void noteCall(Element called) {
        Element caller = methodAround();
        if (caller != null) {
            calls.computeIfAbsent(caller, key -> new LinkedHashSet<>()).add(called);
        }
    }

    private Element methodAround() {
        for (TreePath path = getCurrentPath(); path != null; path = path.getParentPath()) {
            if (path.getLeaf() instanceof MethodTree) {
                return trees.getElement(path);
            }
        }
        return null;
    }

    @Override
    public Void visitLiteral(LiteralTree tree, Void none) {
        if (tree.getValue() instanceof String text && !text.chars().allMatch(sign -> sign >= 1 && sign <= 127)) {
            refuse(4, tree, "a sign that is not 1 to 127");
        }
        return super.visitLiteral(tree, none);
    }

    // ---- rule 6: what is not there, and rule 2: no lambda

    @Override
    public Void visitThrow(ThrowTree tree, Void none) {
        refuse(6, tree, "throw");
        return super.visitThrow(tree, none);
    }

    @Override
    public Void visitTry(TryTree tree, Void none) {
        refuse(6, tree, "try");
        return super.visitTry(tree, none);
    }

    @Override
    public Void visitSynchronized(SynchronizedTree tree, Void none) {
        refuse(6, tree, "synchronized");
        return super.visitSynchronized(tree, none);
    }

    @Override
    public Void visitAssert(AssertTree tree, Void none) {
        refuse(6, tree, "assert");
        return super.visitAssert(tree, none);
    }

    @Override
    public Void visitLambdaExpression(LambdaExpressionTree tree, Void none) {
        refuse(2, tree, "a lambda");
        return super.visitLambdaExpression(tree, none);
    }

    @Override
    public Void visitMemberReference(MemberReferenceTree tree, Void none) {
        refuse(2, tree, "a method reference");
        return super.visitMemberReference(tree, none);
    }

    @Override
    public Void visitInstanceOf(InstanceOfTree tree, Void none) {
        refuse(6, tree, "instanceof, of which the program has no need");
        return super.visitInstanceOf(tree, none);
    }

    @Override
    public Void visitTypeCast(TypeCastTree tree, Void none) {
        if (!typeOf(tree.getType()).getKind().isPrimitive()) {
            refuse(6, tree, "a cast of a reference, of which the program has no need");
        }
        return super.visitTypeCast(tree, none);
    }

    // ---- rules 6 and 10: Strings and Integers are not compared by ==, and not joined by +

    @Override
    public Void visitBinary(BinaryTree tree, Void none) {
        Set<String> both = Set.of("java.lang.String", "java.lang.Integer");
        boolean compares = tree.getKind() == Tree.Kind.EQUAL_TO || tree.getKind() == Tree.Kind.NOT_EQUAL_TO;
        if (compares && both.contains(nameOf(typeOf(tree.getLeftOperand())))
                && both.contains(nameOf(typeOf(tree.getRightOperand())))) {
            refuse(6, tree, tree.toString());
        }
        if (nameOf(trees.getTypeMirror(getCurrentPath())).equals("java.lang.String")) {
            refuse(10, tree, tree.toString());
        }
        return super.visitBinary(tree, none);
    }

    @Override
    public Void visitCompoundAssignment(CompoundAssignmentTree tree, Void none) {
        if (nameOf(trees.getTypeMirror(getCurrentPath())).equals("java.lang.String")) {
            refuse(10, tree, tree.toString());
        }
        return super.visitCompoundAssignment(tree, none);
    }

    // ---- rule 9: each loop has an end that can be seen

    @Override
    public Void visitForLoop(ForLoopTree tree, Void none) {
        dueEnd(tree, tree.getCondition());
        return super.visitForLoop(tree, none);
    }

    @Override
    public Void visitWhileLoop(WhileLoopTree tree, Void none) {
        dueEnd(tree, tree.getCondition());
        return super.visitWhileLoop(tree, none);
    }

    @Override
    public Void visitDoWhileLoop(DoWhileLoopTree tree, Void none) {
        dueEnd(tree, tree.getCondition());
        return super.visitDoWhileLoop(tree, none);
    }

    /** A condition that is a constant, or none, shows no end. */
    private void dueEnd(Tree loop, ExpressionTree condition) {
        Tree inner = condition;
        while (inner instanceof ParenthesizedTree parentheses) {
            inner = parentheses.getExpression();
        }
        if (inner == null || inner instanceof LiteralTree) {
            refuse(9, loop, "a loop without an end that can be seen");
        }
    }

    // ---- rule 12: what is made

    @Override
    public Void visitNewClass(NewClassTree tree, Void none) {
        dueInConstructor(tree);
        if (tree.getClassBody() != null) {
            refuse(2, tree, "a class without a name");
        }
        if (!isOwn(elementOf(tree.getIdentifier()))) {
            refuse(4, tree, tree.toString());
        }
        return super.visitNewClass(tree, none);
    }

    @Override
    public Void visitNewArray(NewArrayTree tree, Void none) {
        dueInConstructor(tree);
        return super.visitNewArray(tree, none);
    }

    /** The program says that no call makes anything: all is made with the object. */
    private void dueInConstructor(Tree tree) {
        Element method = methodAround();
        if (method != null && method.getKind() != ElementKind.CONSTRUCTOR) {
            refuse(12, tree, "a call makes " + tree);
        }
    }

    // ---- rules 8 and 11: recursion, how deep calls go, how many classes there are

    private void rule8NoRecursion() {
        Checks.due("that methods are found", Math.min(calls.size(), 26), 26);
        for (Element method : calls.keySet()) {
            Set<Element> reached = new LinkedHashSet<>();
            ArrayDeque<Element> open = new ArrayDeque<>(calls.get(method));
            while (!open.isEmpty()) {
                Element next = open.pop();
                if (reached.add(next)) {
                    open.addAll(calls.getOrDefault(next, Set.of()));
                }
            }
            Checks.due("rule 8: that " + method + " calls itself", reached.contains(method) ? 1 : 0, 0);
        }
    }

    private void rule11AsManyAsItLeaves() {
        Checks.due("rule 11: classes too many", Math.max(classes, MOST_CLASSES), MOST_CLASSES);
        for (Element method : calls.keySet()) {
            int deep = depth(method, MOST_CALLS_DEEP + 1);
            Checks.due("rule 11: calls too deep of " + method, Math.max(deep, MOST_CALLS_DEEP), MOST_CALLS_DEEP);
        }
    }

    private int depth(Element method, int atMost) {
        int deepest = 0;
        for (Element called : calls.getOrDefault(method, Set.of())) {
            deepest = Math.max(deepest, atMost > 0 ? depth(called, atMost - 1) : 1);
        }
        return deepest + 1;
    }

    /** All calls of a run live in one room, of some 600,000 objects and 7.3 million fields and elements. */
    private static void rule12WhatAnObjectIs() {
        TurnedRows rows = new TurnedRows();
        long before = countRoom(rows);
        Checks.due("rule 12: objects too many", Math.max(before >> 32, 300), 300);
        Checks.due("rule 12: fields and elements too many", Math.max(before & 0xFFFF_FFFFL, 6000), 6000);
        for (int call = 0; call < 64; call++) {
            rows.set(0, call, call);
            rows.put('7');
            rows.read(call % 6);
            rows.save(call % 2);
            rows.restore(call % 2);
            rows.divide(0, 1, 2, 3);
        }
        Checks.due("rule 12: what is kept after many calls", countRoom(rows), before);
    }

    /** How many objects and arrays can be reached from one, and, in the low half, their fields and elements. */
    private static long countRoom(Object first) {
        IdentityHashMap<Object, Boolean> seen = new IdentityHashMap<>();
        ArrayDeque<Object> open = new ArrayDeque<>(List.of(first));
        long cells = 0;
        while (!open.isEmpty()) {
            Object next = open.pop();
            if (seen.put(next, true) == null) {
                cells += next.getClass().isArray() ? openElements(next, open) : openFields(next, open);
            }
        }
        return (long) seen.size() << 32 | cells;
    }

    private static int openElements(Object array, ArrayDeque<Object> open) {
        if (array instanceof Object[] elements) {
            for (Object element : elements) {
                if (element != null) {
                    open.push(element);
                }
            }
        }
        return Array.getLength(array);
    }

    private static int openFields(Object object, ArrayDeque<Object> open) {
        int fields = 0;
        if (!object.getClass().getName().startsWith("TurnedRows")) {
            return 1;
        }
        for (Field field : object.getClass().getDeclaredFields()) {
            if (!java.lang.reflect.Modifier.isStatic(field.getModifiers())) {
                fields++;
                openField(object, field, open);
            }
        }
        return fields;
    }

    private static void openField(Object object, Field field, ArrayDeque<Object> open) {
        try {
            field.setAccessible(true);
            Object value = field.get(object);
            if (value != null && !field.getType().isPrimitive()) {
                open.push(value);
            }
        } catch (IllegalAccessException e) {
            Checks.dueText("the field " + field, "not to be read", "to be read");
        }
    }
}
