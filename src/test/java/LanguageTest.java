import com.sun.source.tree.*;
import com.sun.source.util.JavacTask;
import com.sun.source.util.TreePathScanner;
import com.sun.source.util.Trees;
import java.io.IOException;
import java.nio.charset.StandardCharsets;
import java.nio.file.Files;
import java.nio.file.Path;
import java.util.HashMap;
import java.util.HashSet;
import java.util.List;
import java.util.Map;
import java.util.Set;
import javax.lang.model.element.Element;
import javax.lang.model.element.Modifier;
import javax.tools.JavaCompiler;
import javax.tools.StandardJavaFileManager;
import javax.tools.ToolProvider;

/**
 * The language rules by number, as far as javac's own tree of the source can tell them (run from the project's folder,
 * as .ci/run does). Rule 1 is FaceTest's, rule 7 is SweepTest's.
 */
public final class LanguageTest extends TreePathScanner<Void, Void> {
    private static final Check CHECK = new Check("LanguageTest");
    private static final Path SOURCE = Path.of("src/main/java/PuppetBar.java");
    /** What the class uses of the library that rule 4 lists; none of it makes an object. */
    private static final Set<String> LIBRARY = Set.of("java.util.Arrays.fill", "java.lang.System.arraycopy",
        "java.lang.Math.max", "java.lang.Math.min", "java.lang.Math.abs", "java.lang.Integer.bitCount",
        "java.lang.Object.<init>");
    private static final int MOST_CLASSES = 12, MOST_FIELDS = 20, MOST_PARAMETERS = 7, MOST_LINES = 60, MOST_DEEP = 8;

    private final CompilationUnitTree unit;
    private final Trees trees;
    private final Map<String, Set<String>> calls = new HashMap<>();
    private String method = "";
    private int classes;

    private LanguageTest(CompilationUnitTree unit, Trees trees) {
        this.unit = unit;
        this.trees = trees;
    }

    public static void main(String[] args) throws IOException {
        signs(Files.readString(SOURCE, StandardCharsets.ISO_8859_1));
        JavaCompiler javac = ToolProvider.getSystemJavaCompiler();
        try (StandardJavaFileManager files = javac.getStandardFileManager(null, null, null)) {
            JavacTask task = (JavacTask) javac.getTask(null, files, null, List.of("-proc:none"), null,
                files.getJavaFileObjects(SOURCE));
            CompilationUnitTree unit = task.parse().iterator().next();
            task.analyze();
            LanguageTest test = new LanguageTest(unit, Trees.instance(task));
            test.scan(unit, null);
            test.whole();
        }
        CHECK.end();
    }

    private static void signs(String source) {
        CHECK.sentence("rule 4: signs are 1 to 127");
        for (int i = 0; i < source.length(); i++) {
            CHECK.isTrue("sign " + (int) source.charAt(i), source.charAt(i) >= 1 && source.charAt(i) <= 127);
        }
    }

    private void holds(String rule, Tree tree, boolean holds) {
        CHECK.sentence(rule);
        CHECK.isTrue("line " + line(tree), holds);
    }

    private long line(Tree tree) {
        return unit.getLineMap().getLineNumber(trees.getSourcePositions().getStartPosition(unit, tree));
    }

    private long lastLine(Tree tree) {
        return unit.getLineMap().getLineNumber(trees.getSourcePositions().getEndPosition(unit, tree));
    }

    private static boolean isOwn(Element element) {
        return element.toString().equals("PuppetBar")
            || element.getEnclosingElement() != null && isOwn(element.getEnclosingElement());
    }

    private static String nameOf(Element element) {
        return element.getEnclosingElement() + "." + element.getSimpleName();
    }

    private void whole() {
        CHECK.sentence("rule 11: some twelve classes");
        CHECK.isTrue(classes + " classes", classes <= MOST_CLASSES);
        CHECK.sentence("rules 8 and 11: no recursion, at most eight deep");
        for (String begin : calls.keySet()) {
            int deep = deep(begin, new HashSet<>());
            CHECK.isTrue(begin + " goes " + deep + " deep", deep <= MOST_DEEP);
        }
        CHECK.sentence("rule 4: imports");
        for (ImportTree tree : unit.getImports()) {
            CHECK.isTrue(tree.toString(), tree.getQualifiedIdentifier().toString().equals("java.util.Arrays"));
        }
        CHECK.isTrue("no package", unit.getPackage() == null);
    }

    private int deep(String begin, Set<String> open) {
        if (!open.add(begin)) {
            return MOST_DEEP + 1;
        }
        int deepest = 0;
        for (String called : calls.getOrDefault(begin, Set.of())) {
            deepest = Math.max(deepest, deep(called, open));
        }
        open.remove(begin);
        return deepest + 1;
    }

    @Override public Void visitClass(ClassTree tree, Void none) {
        classes++;
        Tree.Kind around = getCurrentPath().getParentPath().getLeaf().getKind();
        boolean isOuter = around == Tree.Kind.COMPILATION_UNIT;
        boolean isNested = around == Tree.Kind.CLASS && tree.getModifiers().getFlags().contains(Modifier.STATIC);
        holds("rule 2: static nested classes alone", tree, isOuter || isNested);
        int fields = 0;
        for (Tree member : tree.getMembers()) {
            boolean isField = member instanceof VariableTree;
            boolean isConstant = isField && ((VariableTree) member).getModifiers().getFlags().contains(Modifier.STATIC);
            fields += isField && !isConstant ? 1 : 0;
            holds("rule 5: no static initialiser block", tree, !(member instanceof BlockTree));
        }
        holds("rule 11: some twenty fields", tree, fields <= MOST_FIELDS);
        return super.visitClass(tree, none);
    }

    @Override public Void visitMethod(MethodTree tree, Void none) {
        String around = method;
        method = nameOf(trees.getElement(getCurrentPath()));
        holds("rule 11: at most seven parameters", tree, tree.getParameters().size() <= MOST_PARAMETERS);
        if (trees.getSourcePositions().getEndPosition(unit, tree) >= 0) {
            holds("rule 11: some sixty lines", tree, lastLine(tree) - line(tree) < MOST_LINES);
        }
        holds("rule 6: no throws", tree, tree.getThrows().isEmpty());
        holds("rule 3: types (" + tree.getReturnType() + ")", tree, isPlain(String.valueOf(tree.getReturnType())));
        super.visitMethod(tree, none);
        method = around;
        return null;
    }

    @Override public Void visitVariable(VariableTree tree, Void none) {
        String type = String.valueOf(tree.getType());
        holds("rule 3: types (" + type + ")", tree, isPlain(type));
        Set<Modifier> flags = tree.getModifiers().getFlags();
        if (flags.contains(Modifier.STATIC)) {
            holds("rule 5: static fields are final constants", tree, flags.contains(Modifier.FINAL)
                && type.matches("int|long|boolean|char"));
        }
        return super.visitVariable(tree, none);
    }

    /** Less than rule 3 leaves: no text, no list and no number with a fraction is needed. */
    private boolean isPlain(String type) {
        return type.matches("void|null|(int|long|char|boolean|byte|short)(\\[\\])?") || isOwnType(type);
    }

    private boolean isOwnType(String type) {
        String plain = type.replace("[]", "");
        for (Tree member : ((ClassTree) unit.getTypeDecls().get(0)).getMembers()) {
            if (member instanceof ClassTree && ((ClassTree) member).getSimpleName().contentEquals(plain)) {
                return !type.endsWith("[][]");
            }
        }
        return false;
    }

    @Override public Void visitMethodInvocation(MethodInvocationTree tree, Void none) {
        Element called = trees.getElement(getCurrentPath());
        holds("rule 4: the library (" + nameOf(called) + ")", tree, isOwn(called) || LIBRARY.contains(nameOf(called)));
        if (isOwn(called)) {
            calls.computeIfAbsent(method, m -> new HashSet<>()).add(nameOf(called));
        }
        return super.visitMethodInvocation(tree, none);
    }

    /** More than rule 12 asks: all is made with the object, so that a run's calls make nothing. */
    @Override public Void visitNewClass(NewClassTree tree, Void none) {
        holds("rule 12: no call makes an object", tree, method.isEmpty());
        holds("rule 2: no anonymous class", tree, tree.getClassBody() == null);
        return super.visitNewClass(tree, none);
    }

    @Override public Void visitNewArray(NewArrayTree tree, Void none) {
        holds("rule 12: no call makes an array", tree, method.isEmpty());
        return super.visitNewArray(tree, none);
    }

    @Override public Void visitTypeCast(TypeCastTree tree, Void none) {
        holds("rule 6: casts", tree, tree.getType().toString().matches("char|int|long"));
        return super.visitTypeCast(tree, none);
    }

    private static boolean hasBound(Tree condition) {
        return condition != null && condition.toString().matches("(?s).* (<|<=|>|>=) .*");
    }

    @Override public Void visitWhileLoop(WhileLoopTree tree, Void none) {
        holds("rule 9: an end that can be seen", tree, hasBound(tree.getCondition()));
        return super.visitWhileLoop(tree, none);
    }

    @Override public Void visitDoWhileLoop(DoWhileLoopTree tree, Void none) {
        holds("rule 9: an end that can be seen", tree, hasBound(tree.getCondition()));
        return super.visitDoWhileLoop(tree, none);
    }

    @Override public Void visitForLoop(ForLoopTree tree, Void none) {
        holds("rule 9: an end that can be seen", tree, hasBound(tree.getCondition()) && !tree.getUpdate().isEmpty());
        return super.visitForLoop(tree, none);
    }

    @Override public Void visitBinary(BinaryTree tree, Void none) {
        boolean ofText = tree.getLeftOperand().getKind() == Tree.Kind.STRING_LITERAL
            || tree.getRightOperand().getKind() == Tree.Kind.STRING_LITERAL;
        holds("rule 10: no texts joined by +", tree, !ofText);
        return super.visitBinary(tree, none);
    }

    private Void ruledOut(String rule, Tree tree) {
        holds(rule, tree, false);
        return null;
    }

    @Override public Void visitThrow(ThrowTree tree, Void none) {
        return ruledOut("rule 6: no throw", tree);
    }

    @Override public Void visitTry(TryTree tree, Void none) {
        return ruledOut("rule 6: no try", tree);
    }

    @Override public Void visitSynchronized(SynchronizedTree tree, Void none) {
        return ruledOut("rule 6: no synchronized", tree);
    }

    @Override public Void visitAssert(AssertTree tree, Void none) {
        return ruledOut("rule 6: no assert", tree);
    }

    @Override public Void visitLambdaExpression(LambdaExpressionTree tree, Void none) {
        return ruledOut("rule 2: no lambda", tree);
    }

    @Override public Void visitMemberReference(MemberReferenceTree tree, Void none) {
        return ruledOut("rule 2: no method reference", tree);
    }
}
