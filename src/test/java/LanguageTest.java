import com.sun.source.tree.AssertTree;
import com.sun.source.tree.BinaryTree;
import com.sun.source.tree.ClassTree;
import com.sun.source.tree.CompilationUnitTree;
import com.sun.source.tree.CompoundAssignmentTree;
import com.sun.source.tree.DoWhileLoopTree;
import com.sun.source.tree.ExpressionTree;
import com.sun.source.tree.ForLoopTree;
import com.sun.source.tree.LambdaExpressionTree;
import com.sun.source.tree.LiteralTree;
import com.sun.source.tree.MemberReferenceTree;
import com.sun.source.tree.MethodInvocationTree;
import com.sun.source.tree.MethodTree;
import com.sun.source.tree.NewClassTree;
import com.sun.source.tree.ParenthesizedTree;
import com.sun.source.tree.SynchronizedTree;
import com.sun.source.tree.ThrowTree;
import com.sun.source.tree.Tree;
import com.sun.source.tree.TryTree;
import com.sun.source.tree.VariableTree;
import com.sun.source.tree.WhileLoopTree;
import com.sun.source.util.JavacTask;
import com.sun.source.util.TreePath;
import com.sun.source.util.TreePathScanner;
import com.sun.source.util.Trees;
import java.io.File;
import java.lang.reflect.Member;
import java.lang.reflect.Method;
import java.nio.file.Files;
import java.nio.file.Path;
import java.util.Arrays;
import java.util.HashMap;
import java.util.HashSet;
import java.util.List;
import java.util.Map;
import java.util.Set;
import java.util.TreeSet;
import javax.lang.model.element.Element;
import javax.lang.model.element.ElementKind;
import javax.lang.model.element.ExecutableElement;
import javax.lang.model.element.Modifier;
import javax.lang.model.element.TypeElement;
import javax.lang.model.element.VariableElement;
import javax.lang.model.type.ArrayType;
import javax.lang.model.type.DeclaredType;
import javax.lang.model.type.TypeKind;
import javax.lang.model.type.TypeMirror;
import javax.tools.JavaCompiler;
import javax.tools.StandardJavaFileManager;
import javax.tools.ToolProvider;

/**
 * What of LANGUAGE.md can be seen from the source, no narrower than it stands there, and the public face as the
 * document writes it. Arguments: the class's source, the document.
 */
public final class LanguageTest extends TreePathScanner<Void, Void> {
    /** What of the library may be called beside the static functions of Integer, Long and Math over int and long. */
    private static final Map<String, Set<String>> LIBRARY = Map.of(
        "java.lang.String", Set.of("length", "charAt", "isEmpty", "equals", "indexOf", "substring", "toCharArray", "<init>"),
        "java.lang.StringBuilder", Set.of("<init>", "append", "charAt", "setCharAt", "setLength", "deleteCharAt",
            "reverse", "length", "toString"),
        "java.util.ArrayList", Set.of("<init>", "add", "get", "set", "remove", "size", "isEmpty", "clear"),
        "java.util.List", Set.of("add", "get", "set", "remove", "size", "isEmpty", "clear", "of"),
        "java.util.Iterator", Set.of("hasNext", "next"),
        "java.lang.Iterable", Set.of("iterator"),
        "java.lang.Comparable", Set.of("compareTo"),
        "java.lang.System", Set.of("arraycopy"),
        "java.util.Arrays", Set.of("copyOf", "copyOfRange", "fill"),
        "java.lang.Object", Set.of("<init>", "clone"));
    private static final Set<String> TYPES = Set.of("java.lang.String", "java.lang.StringBuilder", "java.lang.Integer",
        "java.util.ArrayList", "java.util.List", "java.util.Iterator", "java.lang.Iterable", "java.lang.Comparable");
    private static final Set<TypeKind> NUMBERS = Set.of(TypeKind.INT, TypeKind.LONG, TypeKind.SHORT, TypeKind.BYTE,
        TypeKind.CHAR, TypeKind.DOUBLE, TypeKind.FLOAT);
    private static final Set<String> OF_OBJECTS = Set.of("equals", "hashCode", "toString");
    private static final int DEEPEST = 8;
    // Where the rules say "some", a little more is let pass.
    private static final int LONGEST_METHOD = 66;
    private static final int MOST_CLASSES = 13;
    private static final int MOST_FIELDS = 22;
    private static final int MOST_PARAMETERS = 7;

    private static int wrong = 0;

    private final CompilationUnitTree unit;
    private final Trees trees;
    private final Map<Element, Set<Element>> calls = new HashMap<>();
    private final Set<String> publicNames = new HashSet<>();
    private int classes = 0;
    private MethodTree method = null;

    private LanguageTest(CompilationUnitTree unit, Trees trees) {
        this.unit = unit;
        this.trees = trees;
    }

    private static void complain(String what) {
        wrong++;
        System.out.println(what);
    }

    private long line(long position) {
        return unit.getLineMap().getLineNumber(position);
    }

    private void no(Tree tree, String rule) {
        complain("line " + line(trees.getSourcePositions().getStartPosition(unit, tree)) + ": " + rule);
    }

    private Element elementOf(Tree tree) {
        return trees.getElement(trees.getPath(unit, tree));
    }

    private TypeMirror typeOf(Tree tree) {
        return trees.getTypeMirror(TreePath.getPath(unit, tree));
    }

    private static String nameOf(TypeMirror type) {
        return type instanceof DeclaredType declared ? ((TypeElement) declared.asElement()).getQualifiedName().toString() : "";
    }

    private static boolean isOwn(String name) {
        return name.equals("WhichWayRound") || name.startsWith("WhichWayRound.");
    }

    // ---- rules 1, 2, 5, 6, 11: classes and members

    @Override public Void visitClass(ClassTree tree, Void none) {
        classes++;
        Element self = trees.getElement(getCurrentPath());
        if (method != null) {
            no(tree, "rule 2: a class in a method");
        } else if (classes > 1) {
            if (!self.getModifiers().contains(Modifier.STATIC)) {
                no(tree, "rule 2: a class inside that is not static");
            }
            if (self.getModifiers().contains(Modifier.PUBLIC) || self.getModifiers().contains(Modifier.PROTECTED)) {
                no(tree, "rule 1: a class inside that is seen outside");
            }
        }
        int fields = 0;
        for (Tree member : tree.getMembers()) {
            if (member.getKind() == Tree.Kind.BLOCK) {
                no(member, "rule 5: an initialiser block");
            }
            if (member instanceof VariableTree field) {
                fields += elementOf(field).getModifiers().contains(Modifier.STATIC) ? 0 : 1;
                checkField(field, self.getKind() == ElementKind.ENUM);
            }
        }
        if (fields > MOST_FIELDS) {
            no(tree, "rule 11: " + fields + " fields");
        }
        return super.visitClass(tree, none);
    }

    private void checkField(VariableTree field, boolean inEnum) {
        Element element = elementOf(field);
        TypeMirror type = element.asType();
        if (element.getKind() == ElementKind.ENUM_CONSTANT) {
            return;
        }
        boolean isStatic = element.getModifiers().contains(Modifier.STATIC);
        if (isStatic && !element.getModifiers().contains(Modifier.FINAL)) {
            no(field, "rule 5: a static field that is not final");
        }
        if (isStatic && type instanceof DeclaredType && !nameOf(type).equals("java.lang.String")) {
            no(field, "rule 5: a static field of type " + type);
        }
        if (inEnum && !isStatic && !Set.of("int", "long", "boolean", "java.lang.String").contains(type.toString())) {
            no(field, "rule 2: an enum's field of type " + type);
        }
    }

    @Override public Void visitMethod(MethodTree tree, Void none) {
        MethodTree around = method;
        method = tree;
        calls.putIfAbsent(trees.getElement(getCurrentPath()), new HashSet<>());
        if (tree.getReturnType() != null) {
            checkType(tree, trees.getTypeMirror(new TreePath(getCurrentPath(), tree.getReturnType())));
        }
        String name = tree.getName().toString();
        if (tree.getModifiers().getFlags().contains(Modifier.PRIVATE) && publicNames.contains(name)) {
            no(tree, "rule 1: a private method with the name of a public one");
        }
        if (OF_OBJECTS.contains(name)) {
            no(tree, "rule 6: " + name);
        }
        if (tree.getParameters().size() > MOST_PARAMETERS) {
            no(tree, "rule 11: more than seven parameters");
        }
        long first = line(trees.getSourcePositions().getStartPosition(unit, tree));
        long last = line(Math.max(0, trees.getSourcePositions().getEndPosition(unit, tree)));
        if (last - first >= LONGEST_METHOD) {
            no(tree, "rule 11: " + (last - first + 1) + " lines");
        }
        super.visitMethod(tree, none);
        method = around;
        return null;
    }

    // ---- rule 3: types

    private boolean isAllowed(TypeMirror type) {
        if (type.getKind().isPrimitive() || type.getKind() == TypeKind.VOID || type.getKind() == TypeKind.TYPEVAR) {
            return true;
        }
        if (type instanceof ArrayType array) {
            TypeMirror of = array.getComponentType();
            boolean isRowOfNumbers = of instanceof ArrayType row && NUMBERS.contains(row.getComponentType().getKind());
            return of.getKind().isPrimitive() || isOwn(nameOf(of)) || isRowOfNumbers;
        }
        return isOwn(nameOf(type)) || TYPES.contains(nameOf(type));
    }

    private void checkType(Tree where, TypeMirror type) {
        if (type != null && !isAllowed(type)) {
            no(where, "rule 3: type " + type);
        }
    }

    @Override public Void visitVariable(VariableTree tree, Void none) {
        checkType(tree, trees.getElement(getCurrentPath()).asType());
        return super.visitVariable(tree, none);
    }

    // ---- rule 4: the library

    private static boolean isOverIntsAndLongs(ExecutableElement called) {
        Set<TypeKind> kinds = Set.of(TypeKind.INT, TypeKind.LONG);
        return called.getModifiers().contains(Modifier.STATIC) && kinds.contains(called.getReturnType().getKind())
            && called.getParameters().stream().map(VariableElement::asType).allMatch(t -> kinds.contains(t.getKind()))
            && !called.getSimpleName().toString().endsWith("Exact");
    }

    private void checkCall(Tree tree, Element called) {
        String owner = ((TypeElement) called.getEnclosingElement()).getQualifiedName().toString();
        String name = called.getSimpleName().toString();
        boolean isAllowed = isOwn(owner) || LIBRARY.getOrDefault(owner, Set.of()).contains(name);
        if (Set.of("java.lang.Integer", "java.lang.Long", "java.lang.Math").contains(owner)) {
            isAllowed = isOverIntsAndLongs((ExecutableElement) called);
        }
        if (owner.equals("java.lang.Enum") || owner.equals("java.lang.Record")) {
            isAllowed = !OF_OBJECTS.contains(name);
        }
        if (owner.equals("Array")) {
            isAllowed = name.equals("clone");
        }
        if (!isAllowed) {
            no(tree, "rule 4: " + owner + "." + name);
        }
        if (method != null) {
            calls.computeIfAbsent(elementOf(method), c -> new HashSet<>()).add(called);
        }
    }

    @Override public Void visitMethodInvocation(MethodInvocationTree tree, Void none) {
        checkCall(tree, trees.getElement(getCurrentPath()));
        return super.visitMethodInvocation(tree, none);
    }

    @Override public Void visitNewClass(NewClassTree tree, Void none) {
        if (tree.getClassBody() != null) {
            no(tree, "rule 2: a class without a name");
        }
        checkCall(tree, trees.getElement(getCurrentPath()));
        return super.visitNewClass(tree, none);
    }

    @Override public Void visitLiteral(LiteralTree tree, Void none) {
        if (tree.getValue() instanceof String text && !text.chars().allMatch(c -> c >= 1 && c <= 127)) {
            no(tree, "rule 4: a sign that is not 1 to 127");
        }
        return super.visitLiteral(tree, none);
    }

    // ---- rules 6, 10: what is compared and joined

    private boolean isText(ExpressionTree tree) {
        TypeMirror type = typeOf(tree);
        return type != null && nameOf(type).equals("java.lang.String");
    }

    private boolean isBoxed(ExpressionTree tree) {
        TypeMirror type = typeOf(tree);
        return type != null && nameOf(type).equals("java.lang.Integer");
    }

    @Override public Void visitBinary(BinaryTree tree, Void none) {
        boolean texts = isText(tree.getLeftOperand()) || isText(tree.getRightOperand());
        boolean compares = tree.getKind() == Tree.Kind.EQUAL_TO || tree.getKind() == Tree.Kind.NOT_EQUAL_TO;
        if (texts && tree.getKind() == Tree.Kind.PLUS) {
            no(tree, "rule 10: texts joined by +");
        }
        if (compares && (isText(tree.getLeftOperand()) && isText(tree.getRightOperand())
                || isBoxed(tree.getLeftOperand()) && isBoxed(tree.getRightOperand()))) {
            no(tree, "rule 6: two of them compared by " + tree.getKind());
        }
        return super.visitBinary(tree, none);
    }

    @Override public Void visitCompoundAssignment(CompoundAssignmentTree tree, Void none) {
        if (isText(tree.getVariable())) {
            no(tree, "rule 10: texts joined by +=");
        }
        return super.visitCompoundAssignment(tree, none);
    }

    // ---- rule 9: loops

    private void checkLoop(Tree loop, ExpressionTree condition) {
        ExpressionTree bare = condition;
        while (bare instanceof ParenthesizedTree inner) {
            bare = inner.getExpression();
        }
        if (bare == null || bare instanceof LiteralTree) {
            no(loop, "rule 9: a loop without an end that can be seen");
        }
    }

    @Override public Void visitForLoop(ForLoopTree tree, Void none) {
        checkLoop(tree, tree.getCondition());
        return super.visitForLoop(tree, none);
    }

    @Override public Void visitWhileLoop(WhileLoopTree tree, Void none) {
        checkLoop(tree, tree.getCondition());
        return super.visitWhileLoop(tree, none);
    }

    @Override public Void visitDoWhileLoop(DoWhileLoopTree tree, Void none) {
        checkLoop(tree, tree.getCondition());
        return super.visitDoWhileLoop(tree, none);
    }

    // ---- rules 2, 6: what is not there at all

    @Override public Void visitThrow(ThrowTree tree, Void none) {
        no(tree, "rule 6: throw");
        return super.visitThrow(tree, none);
    }

    @Override public Void visitTry(TryTree tree, Void none) {
        no(tree, "rule 6: try");
        return super.visitTry(tree, none);
    }

    @Override public Void visitAssert(AssertTree tree, Void none) {
        no(tree, "rule 6: assert");
        return super.visitAssert(tree, none);
    }

    @Override public Void visitSynchronized(SynchronizedTree tree, Void none) {
        no(tree, "rule 6: synchronized");
        return super.visitSynchronized(tree, none);
    }

    @Override public Void visitLambdaExpression(LambdaExpressionTree tree, Void none) {
        no(tree, "rule 2: lambda");
        return super.visitLambdaExpression(tree, none);
    }

    @Override public Void visitMemberReference(MemberReferenceTree tree, Void none) {
        no(tree, "rule 2: method reference");
        return super.visitMemberReference(tree, none);
    }

    // ---- rule 11: how deep calls go

    private boolean reaches(Element from, Element to, Set<Element> seen) {
        for (Element called : calls.getOrDefault(from, Set.of())) {
            if (called.equals(to) || seen.add(called) && reaches(called, to, seen)) {
                return true;
            }
        }
        return false;
    }

    /** How deep the calls go from one on, itself counted; those of a recursion are not followed. */
    private int depth(Element from, Map<Element, Integer> found) {
        Integer before = found.get(from);
        if (before != null) {
            return before;
        }
        int deepest = 1;
        for (Element called : calls.getOrDefault(from, Set.of())) {
            if (calls.containsKey(called) && !reaches(called, from, new HashSet<>())) {
                deepest = Math.max(deepest, 1 + depth(called, found));
            }
        }
        found.put(from, deepest);
        return deepest;
    }

    private void checkWhole() {
        if (classes > MOST_CLASSES) {
            complain("rule 11: " + classes + " classes");
        }
        if (unit.getPackageName() != null) {
            complain("a package line");
        }
        unit.getImports().forEach(i -> {
            if (!TYPES.contains(i.getQualifiedIdentifier().toString())
                    && !i.getQualifiedIdentifier().toString().equals("java.util.Arrays")) {
                no(i, "rule 4: " + i.getQualifiedIdentifier());
            }
        });
        Map<Element, Integer> found = new HashMap<>();
        for (Element each : calls.keySet()) {
            int depth = depth(each, found);
            if (depth > DEEPEST) {
                complain("rule 11: calls go " + depth + " deep from " + each);
            }
        }
    }

    // ---- rule 1: the face

    private static Set<String> dueFace(Path document) throws Exception {
        Set<String> face = new TreeSet<>();
        for (String line : Files.readAllLines(document)) {
            if (line.startsWith("    public ")) {
                face.add(line.strip().replaceAll(" \\w+([,)])", "$1").replace("int(", "(").replace(";", ""));
            }
        }
        return face;
    }

    private static String shapeOf(Member member, String returns, Class<?>[] types) {
        String parameters = String.join(", ", Arrays.stream(types).map(Class::getName).toList());
        return java.lang.reflect.Modifier.toString(member.getModifiers()) + " " + returns + member.getName()
            + "(" + parameters + ")";
    }

    private static boolean isSeen(Member member) {
        return !java.lang.reflect.Modifier.isPrivate(member.getModifiers()) && !member.isSynthetic();
    }

    private static Set<String> face() {
        Set<String> face = new TreeSet<>();
        for (Method m : WhichWayRound.class.getDeclaredMethods()) {
            if (isSeen(m)) {
                face.add(shapeOf(m, m.getReturnType() + " ", m.getParameterTypes()));
            }
        }
        Arrays.stream(WhichWayRound.class.getDeclaredConstructors()).filter(LanguageTest::isSeen)
            .forEach(c -> face.add(shapeOf(c, "", c.getParameterTypes())));
        Arrays.stream(WhichWayRound.class.getDeclaredFields()).filter(LanguageTest::isSeen)
            .forEach(f -> face.add(f.toString()));
        return face;
    }

    private static void checkFace(Path document) throws Exception {
        Set<String> due = dueFace(document);
        Set<String> is = face();
        if (due.size() != 47 || !due.equals(is)) {
            Set<String> more = new TreeSet<>(is);
            more.removeAll(due);
            Set<String> fewer = new TreeSet<>(due);
            fewer.removeAll(is);
            complain("rule 1: the face has more " + more + " and lacks " + fewer + " of " + due.size());
        }
        int modifiers = WhichWayRound.class.getModifiers();
        if (!java.lang.reflect.Modifier.isPublic(modifiers) || !java.lang.reflect.Modifier.isFinal(modifiers)) {
            complain("rule 1: the class is not public and final");
        }
    }

    private void check() {
        for (Method m : WhichWayRound.class.getMethods()) {
            if (m.getDeclaringClass() == WhichWayRound.class) {
                publicNames.add(m.getName());
            }
        }
        scan(unit, null);
        checkWhole();
    }

    public static void main(String[] args) throws Exception {
        JavaCompiler compiler = ToolProvider.getSystemJavaCompiler();
        try (StandardJavaFileManager files = compiler.getStandardFileManager(null, null, null)) {
            JavacTask task = (JavacTask) compiler.getTask(null, files, null, List.of("-proc:none"), null,
                files.getJavaFileObjects(new File(args[0])));
            CompilationUnitTree unit = task.parse().iterator().next();
            task.analyze();
            LanguageTest test = new LanguageTest(unit, Trees.instance(task));
            test.check();
        }
        checkFace(Path.of(args[1]));
        System.out.println(wrong == 0 ? "the language is kept to" : wrong + " places are not in the language");
        if (wrong != 0) {
            System.exit(1);
        }
    }
}
