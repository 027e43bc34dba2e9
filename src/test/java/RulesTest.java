import com.sun.source.tree.BinaryTree;
import com.sun.source.tree.ClassTree;
import com.sun.source.tree.CompilationUnitTree;
import com.sun.source.tree.ExpressionTree;
import com.sun.source.tree.LineMap;
import com.sun.source.tree.MethodInvocationTree;
import com.sun.source.tree.MethodTree;
import com.sun.source.tree.NewClassTree;
import com.sun.source.tree.Tree;
import com.sun.source.util.JavacTask;
import com.sun.source.util.SourcePositions;
import com.sun.source.util.TreePathScanner;
import com.sun.source.util.Trees;
import java.io.File;
import java.util.HashSet;
import java.util.List;
import java.util.Map;
import java.util.Set;
import java.util.TreeMap;
import java.util.TreeSet;
import javax.lang.model.element.Element;
import javax.lang.model.element.ElementKind;
import javax.lang.model.element.Modifier;
import javax.lang.model.element.TypeElement;
import javax.lang.model.type.TypeMirror;
import javax.tools.JavaCompiler;
import javax.tools.ToolProvider;

/** Rules of ../shared/LANGUAGE.md that are seen in the program as the compiler takes it apart. */
public final class RulesTest {
    private static final Check CHECK = new Check("RulesTest");
    private static final Set<Tree.Kind> RULED_OUT = Set.of(Tree.Kind.THROW, Tree.Kind.TRY, Tree.Kind.CATCH,
            Tree.Kind.SYNCHRONIZED, Tree.Kind.ASSERT, Tree.Kind.LAMBDA_EXPRESSION, Tree.Kind.MEMBER_REFERENCE,
            Tree.Kind.SWITCH_EXPRESSION, Tree.Kind.YIELD, Tree.Kind.IMPORT, Tree.Kind.PACKAGE, Tree.Kind.ANNOTATION,
            Tree.Kind.INSTANCE_OF, Tree.Kind.BINDING_PATTERN);
    private static final Set<String> LIBRARY = Set.of("java.lang.String.length", "java.lang.String.charAt",
            "java.lang.System.arraycopy", "java.lang.Math.max", "java.lang.Math.min", "java.lang.Integer.bitCount");
    private static final Set<String> TYPES = Set.of("int", "long", "byte", "boolean", "char", "java.lang.String");
    /** Methods that come back to themselves: each carries its depth and refuses what would go deeper. */
    private static final Set<String> RECURSION =
            Set.of("LawReader.readAnyOf", "LawReader.readAllOf", "LawReader.readOne", "Actor.run");
    private static final int MOST_LINES = 60, DEEPEST = 8;

    /** By method, those that it calls. */
    private static final Map<String, Set<String>> CALLS = new TreeMap<>();

    public static void main(String[] args) throws Exception {
        JavaCompiler compiler = ToolProvider.getSystemJavaCompiler();
        var manager = compiler.getStandardFileManager(null, null, null);
        var source = manager.getJavaFileObjects(new File("src/main/java/OneIsTwo.java"));
        JavacTask task = (JavacTask) compiler.getTask(null, manager, null, List.of("-proc:none"), null, source);
        CompilationUnitTree unit = task.parse().iterator().next();
        task.analyze();
        new Rules(Trees.instance(task), unit).scan(unit, null);
        CHECK.isTrue("methods were seen: " + CALLS.size(), CALLS.size() > 45);
        theDepth();
        CHECK.close();
    }

    /** Rule 11, and stricter: the calls of a recursion count, too, each method once. */
    private static void theDepth() {
        Set<String> back = new TreeSet<>();
        int deepest = 0;
        for (String method : CALLS.keySet()) {
            Set<String> open = new HashSet<>();
            deepest = Math.max(deepest, depth(method, open, back));
        }
        CHECK.isTrue("rule 11, calls are " + deepest + " deep", deepest <= DEEPEST);
        CHECK.isTrue("the depth was counted", deepest > 4);
        CHECK.isTrue("rule 8, recursion: " + back, RECURSION.containsAll(back));
    }

    private static int depth(String method, Set<String> open, Set<String> back) {
        if (!open.add(method)) {
            back.add(method);
            return 0;
        }
        int deepest = 0;
        for (String called : CALLS.getOrDefault(method, Set.of())) {
            deepest = Math.max(deepest, depth(called, open, back));
        }
        open.remove(method);
        return deepest + 1;
    }

    private static final class Rules extends TreePathScanner<Void, Void> {
        private final Trees trees;
        private final CompilationUnitTree unit;
        private final SourcePositions places;
        private final LineMap lines;
        private String method = "";

        Rules(Trees trees, CompilationUnitTree unit) {
            this.trees = trees;
            this.unit = unit;
            places = trees.getSourcePositions();
            lines = unit.getLineMap();
        }

        private String at(Tree tree) {
            return " at line " + lines.getLineNumber(places.getStartPosition(unit, tree));
        }

        @Override public Void scan(Tree tree, Void none) {
            if (tree != null) CHECK.isTrue(tree.getKind() + at(tree), !RULED_OUT.contains(tree.getKind()));
            return super.scan(tree, none);
        }

        @Override public Void visitClass(ClassTree tree, Void none) {
            Element of = trees.getElement(getCurrentPath());
            boolean isFace = of.getEnclosingElement().getKind() == ElementKind.PACKAGE;
            boolean isMember = of.getEnclosingElement().getKind() == ElementKind.CLASS;
            boolean isStatic = of.getModifiers().contains(Modifier.STATIC);
            CHECK.isTrue("rule 2, a class" + at(tree), isFace || isMember && isStatic);
            CHECK.isTrue("rule 2, initialiser block" + at(tree),
                    tree.getMembers().stream().noneMatch(m -> m.getKind() == Tree.Kind.BLOCK));
            return super.visitClass(tree, none);
        }

        @Override public Void visitMethod(MethodTree tree, Void none) {
            long from = lines.getLineNumber(places.getStartPosition(unit, tree));
            long to = lines.getLineNumber(places.getEndPosition(unit, tree));
            CHECK.isTrue("rule 11, lines of " + tree.getName() + at(tree), to - from < MOST_LINES);
            CHECK.isTrue("rule 11, parameters of " + tree.getName() + at(tree), tree.getParameters().size() <= 7);
            method = name(trees.getElement(getCurrentPath()));
            CALLS.putIfAbsent(method, new TreeSet<>());
            super.visitMethod(tree, none);
            method = "";
            return null;
        }

        private static String name(Element of) {
            return of.getEnclosingElement().getSimpleName() + "." + of.getSimpleName();
        }

        @Override public Void visitMethodInvocation(MethodInvocationTree tree, Void none) {
            Element called = trees.getElement(getCurrentPath());
            if (isOurs(called)) {
                if (!method.isEmpty()) CALLS.get(method).add(name(called));
            } else if (!called.getSimpleName().contentEquals("<init>")) {
                TypeElement whose = (TypeElement) called.getEnclosingElement();
                String whole = whose.getQualifiedName() + "." + called.getSimpleName();
                CHECK.isTrue("rule 4, the library: " + whole + at(tree), LIBRARY.contains(whole));
            }
            return super.visitMethodInvocation(tree, none);
        }

        private static boolean isOurs(Element of) {
            Element outer = of;
            while (outer.getEnclosingElement().getKind() != ElementKind.PACKAGE) outer = outer.getEnclosingElement();
            return outer.getSimpleName().contentEquals("OneIsTwo");
        }

        @Override public Void visitNewClass(NewClassTree tree, Void none) {
            CHECK.isTrue("rule 12, made" + at(tree), method.isEmpty() || method.endsWith("<init>"));
            CHECK.isTrue("a class of our own" + at(tree), isOurs(trees.getElement(getCurrentPath())));
            return super.visitNewClass(tree, none);
        }

        @Override public Void visitNewArray(com.sun.source.tree.NewArrayTree tree, Void none) {
            CHECK.isTrue("rule 12, made" + at(tree), method.isEmpty() || method.endsWith("<init>"));
            return super.visitNewArray(tree, none);
        }

        @Override public Void visitBinary(BinaryTree tree, Void none) {
            boolean isText = isText(tree.getLeftOperand()) || isText(tree.getRightOperand());
            CHECK.isTrue("rules 6 and 10, a text" + at(tree), !isText);
            return super.visitBinary(tree, none);
        }

        private boolean isText(ExpressionTree tree) {
            TypeMirror type = trees.getTypeMirror(new com.sun.source.util.TreePath(getCurrentPath(), tree));
            return type != null && type.toString().equals("java.lang.String");
        }

        @Override public Void visitVariable(com.sun.source.tree.VariableTree tree, Void none) {
            Element of = trees.getElement(getCurrentPath());
            String type = of.asType().toString();
            String item = type.replace("[]", "");
            boolean isNumbers = !item.equals("java.lang.String") && TYPES.contains(item);
            int ways = (type.length() - item.length()) / 2;
            boolean fits = isNumbers && ways <= 2 || ways == 0 && TYPES.contains(item)
                    || ways <= 1 && item.startsWith("OneIsTwo.");
            CHECK.isTrue("rule 3, " + type + at(tree), fits);
            if (of.getKind() == ElementKind.FIELD && of.getModifiers().contains(Modifier.STATIC)) {
                boolean isFinal = of.getModifiers().contains(Modifier.FINAL);
                CHECK.isTrue("rule 5" + at(tree), isFinal && tree.getInitializer() != null);
            }
            return super.visitVariable(tree, none);
        }
    }
}
