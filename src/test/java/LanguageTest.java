import com.sun.source.tree.AnnotationTree;
import com.sun.source.tree.AssertTree;
import com.sun.source.tree.ClassTree;
import com.sun.source.tree.CompilationUnitTree;
import com.sun.source.tree.DoWhileLoopTree;
import com.sun.source.tree.ForLoopTree;
import com.sun.source.tree.LambdaExpressionTree;
import com.sun.source.tree.LiteralTree;
import com.sun.source.tree.MemberReferenceTree;
import com.sun.source.tree.MethodInvocationTree;
import com.sun.source.tree.MethodTree;
import com.sun.source.tree.NewArrayTree;
import com.sun.source.tree.NewClassTree;
import com.sun.source.tree.SynchronizedTree;
import com.sun.source.tree.ThrowTree;
import com.sun.source.tree.Tree;
import com.sun.source.tree.TryTree;
import com.sun.source.tree.TypeCastTree;
import com.sun.source.tree.VariableTree;
import com.sun.source.tree.WhileLoopTree;
import com.sun.source.util.JavacTask;
import com.sun.source.util.TreePathScanner;
import com.sun.source.util.Trees;
import java.io.File;
import java.lang.reflect.Member;
import java.lang.reflect.Method;
import java.lang.reflect.Modifier;
import java.nio.file.Files;
import java.nio.file.Path;
import java.util.Arrays;
import java.util.HashMap;
import java.util.HashSet;
import java.util.List;
import java.util.Map;
import java.util.Set;
import java.util.TreeSet;
import javax.lang.model.element.Element;
import javax.lang.model.element.ElementKind;
import javax.tools.JavaCompiler;
import javax.tools.StandardJavaFileManager;
import javax.tools.ToolProvider;

/**
 * What of LANGUAGE.md can be seen from the source, as narrow as the class needs it now (no object made outside
 * constructors, no recursion, five functions of the library), and the public face as the document writes it.
 * Arguments: the class's source, the document.
 */
public final class LanguageTest extends TreePathScanner<Void, Void> {
    private static final Set<String> LIBRARY = Set.of(
        "java.lang.Integer.bitCount", "java.lang.Math.max", "java.lang.Math.min", "java.lang.Math.abs",
        "java.lang.Object.<init>");
    private static final Set<String> TYPES = Set.of("int", "long", "boolean", "int[]", "void", "Town", "Past",
        "Letters", "Told", "OfWays", "OfOne", "OfAll");
    private static final int DEEPEST = 8;
    private static final int LONGEST_METHOD = 60;

    private static int wrong = 0;

    private final CompilationUnitTree unit;
    private final Trees trees;
    private final Map<Element, Set<Element>> calls = new HashMap<>();
    private final Set<String> publicNames = new HashSet<>();
    private int classes = 0;
    private MethodTree method = null;

    private LanguageTest(CompilationUnitTree unit, Trees trees) {
        this.unit = unit;
        this.trees = trees;
    }

    private static void complain(String what) {
        wrong++;
        System.out.println(what);
    }

    private long line(long position) {
        return unit.getLineMap().getLineNumber(position);
    }

    private void no(Tree tree, String rule) {
        complain("line " + line(trees.getSourcePositions().getStartPosition(unit, tree)) + ": " + rule);
    }

    private boolean inConstructor() {
        return method != null && method.getName().contentEquals("<init>");
    }

    private void checkType(Tree type) {
        if (type != null && !TYPES.contains(type.toString())) {
            no(type, "rule 3: type " + type);
        }
    }

    @Override public Void visitClass(ClassTree tree, Void none) {
        classes++;
        int fields = 0;
        for (Tree member : tree.getMembers()) {
            if (member.getKind() == Tree.Kind.BLOCK) {
                no(member, "rule 5: an initialiser block");
            }
            if (member instanceof VariableTree field) {
                Set<javax.lang.model.element.Modifier> flags = field.getModifiers().getFlags();
                boolean isStatic = flags.contains(javax.lang.model.element.Modifier.STATIC);
                fields += isStatic ? 0 : 1;
                if (isStatic && !flags.contains(javax.lang.model.element.Modifier.FINAL)) {
                    no(field, "rule 5: a static field that is not final");
                }
            }
        }
        if (fields > 20) {
            no(tree, "rule 11: " + fields + " fields");
        }
        if (classes > 1 && !tree.getModifiers().getFlags().contains(javax.lang.model.element.Modifier.STATIC)) {
            no(tree, "rule 2: a class inside that is not static");
        }
        if (method != null) {
            no(tree, "rule 2: a class in a method");
        }
        return super.visitClass(tree, none);
    }

    @Override public Void visitMethod(MethodTree tree, Void none) {
        method = tree;
        calls.putIfAbsent(trees.getElement(getCurrentPath()), new HashSet<>());
        checkType(tree.getReturnType());
        boolean isPublic = tree.getModifiers().getFlags().contains(javax.lang.model.element.Modifier.PUBLIC);
        if (!isPublic && publicNames.contains(tree.getName().toString())) {
            no(tree, "rule 1: a method with the name of a public one");
        }
        if (tree.getParameters().size() > 7) {
            no(tree, "rule 11: more than seven parameters");
        }
        long first = line(trees.getSourcePositions().getStartPosition(unit, tree));
        long last = line(Math.max(0, trees.getSourcePositions().getEndPosition(unit, tree)));
        if (last - first >= LONGEST_METHOD) {
            no(tree, "rule 11: " + (last - first + 1) + " lines");
        }
        super.visitMethod(tree, none);
        method = null;
        return null;
    }

    @Override public Void visitVariable(VariableTree tree, Void none) {
        checkType(tree.getType());
        return super.visitVariable(tree, none);
    }

    @Override public Void visitMethodInvocation(MethodInvocationTree tree, Void none) {
        Element called = trees.getElement(getCurrentPath());
        String name = called.getEnclosingElement() + "." + called.getSimpleName();
        if (!name.startsWith("WhichWayRound") && !LIBRARY.contains(name)) {
            no(tree, "rule 4: " + name);
        }
        note(called);
        return super.visitMethodInvocation(tree, none);
    }

    @Override public Void visitNewClass(NewClassTree tree, Void none) {
        note(trees.getElement(getCurrentPath()));
        if (!inConstructor()) {
            no(tree, "rule 12: an object made outside a constructor");
        }
        return super.visitNewClass(tree, none);
    }

    @Override public Void visitNewArray(NewArrayTree tree, Void none) {
        if (!inConstructor()) {
            no(tree, "rule 12: an array made outside a constructor");
        }
        return super.visitNewArray(tree, none);
    }

    private void note(Element called) {
        if (method != null) {
            Element caller = trees.getElement(trees.getPath(unit, method));
            calls.computeIfAbsent(caller, c -> new HashSet<>()).add(called);
        }
    }

    @Override public Void visitForLoop(ForLoopTree tree, Void none) {
        if (tree.getCondition() == null || tree.getUpdate().isEmpty()) {
            no(tree, "rule 9: a loop without a counter against a bound");
        }
        return super.visitForLoop(tree, none);
    }

    @Override public Void visitWhileLoop(WhileLoopTree tree, Void none) {
        no(tree, "rule 9: while");
        return super.visitWhileLoop(tree, none);
    }

    @Override public Void visitDoWhileLoop(DoWhileLoopTree tree, Void none) {
        no(tree, "rule 9: do");
        return super.visitDoWhileLoop(tree, none);
    }

    @Override public Void visitThrow(ThrowTree tree, Void none) {
        no(tree, "rule 6: throw");
        return super.visitThrow(tree, none);
    }

    @Override public Void visitTry(TryTree tree, Void none) {
        no(tree, "rule 6: try");
        return super.visitTry(tree, none);
    }

    @Override public Void visitAssert(AssertTree tree, Void none) {
        no(tree, "rule 6: assert");
        return super.visitAssert(tree, none);
    }

    @Override public Void visitSynchronized(SynchronizedTree tree, Void none) {
        no(tree, "rule 6: synchronized");
        return super.visitSynchronized(tree, none);
    }

    @Override public Void visitLambdaExpression(LambdaExpressionTree tree, Void none) {
        no(tree, "rule 2: lambda");
        return super.visitLambdaExpression(tree, none);
    }

    @Override public Void visitMemberReference(MemberReferenceTree tree, Void none) {
        no(tree, "rule 2: method reference");
        return super.visitMemberReference(tree, none);
    }

    @Override public Void visitTypeCast(TypeCastTree tree, Void none) {
        no(tree, "a cast");
        return super.visitTypeCast(tree, none);
    }

    @Override public Void visitAnnotation(AnnotationTree tree, Void none) {
        no(tree, "an annotation");
        return super.visitAnnotation(tree, none);
    }

    @Override public Void visitLiteral(LiteralTree tree, Void none) {
        if (tree.getKind() == Tree.Kind.STRING_LITERAL) {
            no(tree, "a text");
        }
        return super.visitLiteral(tree, none);
    }

    /** How deep the calls go from one on, itself counted; more than DEEPEST ends the count, so recursion does, too. */
    private int depth(Element from, int above) {
        int deepest = 1;
        if (above > DEEPEST) {
            return deepest;
        }
        for (Element called : calls.getOrDefault(from, Set.of())) {
            if (called.getKind() == ElementKind.METHOD || called.getKind() == ElementKind.CONSTRUCTOR) {
                deepest = Math.max(deepest, 1 + depth(called, above + 1));
            }
        }
        return deepest;
    }

    private void checkWhole() {
        if (classes > 12) {
            complain("rule 11: " + classes + " classes");
        }
        if (!unit.getImports().isEmpty() || unit.getPackageName() != null) {
            complain("an import or a package line");
        }
        for (Element each : calls.keySet()) {
            int depth = depth(each, 1);
            if (depth > DEEPEST) {
                complain("rules 8, 11: calls go " + depth + " deep from " + each);
            }
        }
    }

    private static Set<String> dueFace(Path document) throws Exception {
        Set<String> face = new TreeSet<>();
        for (String line : Files.readAllLines(document)) {
            if (line.startsWith("    public ")) {
                face.add(line.strip().replaceAll(" \\w+([,)])", "$1").replace("int(", "(").replace(";", ""));
            }
        }
        return face;
    }

    private static String shapeOf(Member member, String returns, Class<?>[] types) {
        String parameters = String.join(", ", Arrays.stream(types).map(Class::getName).toList());
        return Modifier.toString(member.getModifiers()) + " " + returns + member.getName() + "(" + parameters + ")";
    }

    private static Set<String> face() {
        Set<String> face = new TreeSet<>();
        for (Method m : WhichWayRound.class.getDeclaredMethods()) {
            if (!Modifier.isPrivate(m.getModifiers())) {
                face.add(shapeOf(m, m.getReturnType() + " ", m.getParameterTypes()));
            }
        }
        Arrays.stream(WhichWayRound.class.getDeclaredConstructors())
            .forEach(c -> face.add(shapeOf(c, "", c.getParameterTypes())));
        Arrays.stream(WhichWayRound.class.getDeclaredFields())
            .filter(f -> !Modifier.isPrivate(f.getModifiers())).forEach(f -> face.add(f.toString()));
        return face;
    }

    private static void checkFace(Path document) throws Exception {
        Set<String> due = dueFace(document);
        Set<String> is = face();
        if (due.size() != 47 || !due.equals(is)) {
            Set<String> more = new TreeSet<>(is);
            more.removeAll(due);
            Set<String> fewer = new TreeSet<>(due);
            fewer.removeAll(is);
            complain("rule 1: the face has more " + more + " and lacks " + fewer + " of " + due.size());
        }
        int modifiers = WhichWayRound.class.getModifiers();
        if (!Modifier.isPublic(modifiers) || !Modifier.isFinal(modifiers)) {
            complain("rule 1: the class is not public and final");
        }
    }

    private void check() {
        for (Method m : WhichWayRound.class.getMethods()) {
            if (m.getDeclaringClass() == WhichWayRound.class) {
                publicNames.add(m.getName());
            }
        }
        scan(unit, null);
        checkWhole();
    }

    public static void main(String[] args) throws Exception {
        JavaCompiler compiler = ToolProvider.getSystemJavaCompiler();
        try (StandardJavaFileManager files = compiler.getStandardFileManager(null, null, null)) {
            JavacTask task = (JavacTask) compiler.getTask(null, files, null, List.of("-proc:none"), null,
                files.getJavaFileObjects(new File(args[0])));
            CompilationUnitTree unit = task.parse().iterator().next();
            task.analyze();
            LanguageTest test = new LanguageTest(unit, Trees.instance(task));
            test.check();
        }
        checkFace(Path.of(args[1]));
        System.out.println(wrong == 0 ? "the language is kept to" : wrong + " places are not in the language");
        if (wrong != 0) {
            System.exit(1);
        }
    }
}
