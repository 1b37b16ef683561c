import com.sun.source.tree.AssertTree;
import com.sun.source.tree.BinaryTree;
import com.sun.source.tree.BlockTree;
import com.sun.source.tree.ClassTree;
import com.sun.source.tree.CompilationUnitTree;
import com.sun.source.tree.CompoundAssignmentTree;
import com.sun.source.tree.InstanceOfTree;
import com.sun.source.tree.LambdaExpressionTree;
import com.sun.source.tree.MemberReferenceTree;
import com.sun.source.tree.MethodInvocationTree;
import com.sun.source.tree.MethodTree;
import com.sun.source.tree.NewArrayTree;
import com.sun.source.tree.NewClassTree;
import com.sun.source.tree.SynchronizedTree;
import com.sun.source.tree.ThrowTree;
import com.sun.source.tree.Tree;
import com.sun.source.tree.TryTree;
import com.sun.source.tree.TypeCastTree;
import com.sun.source.tree.VariableTree;
import com.sun.source.util.JavacTask;
import com.sun.source.util.TreePath;
import com.sun.source.util.TreePathScanner;
import com.sun.source.util.Trees;
import java.io.IOException;
import java.nio.file.Path;
import java.util.List;
import java.util.Map;
import java.util.Set;
import java.util.TreeMap;
import java.util.TreeSet;
import javax.lang.model.element.Element;
import javax.lang.model.element.Modifier;
import javax.lang.model.type.TypeMirror;
import javax.tools.JavaCompiler;
import javax.tools.StandardJavaFileManager;
import javax.tools.ToolProvider;

/** LANGUAGE.md: what the compiler's own tree of MastMove.java shows of its rules. */
public final class LanguageTest extends TreePathScanner<Void, Void> {
    private static final Check CHECK = new Check("LanguageTest");
    private static final Path PROGRAM = Path.of("src/main/java/MastMove.java");
    private static final Set<String> NUMBERS = Set.of("int", "long", "short", "byte", "char", "boolean", "double", "float");
    private static final Set<String> CONSTANTS = Set.of(
        "int", "long", "boolean", "char", "java.lang.String", "int[]", "long[]", "char[]", "byte[]");
    private static final Set<String> LIBRARY = Set.of(
        "java.lang.String.length", "java.lang.String.charAt", "java.lang.Math.min", "java.lang.Math.max",
        "java.lang.Integer.bitCount", "java.lang.System.arraycopy", "java.util.Arrays.fill",
        "java.lang.Object.<init>");
    /** The one recursion: sums in parentheses, of which the document lets 8 stand in each other. */
    private static final Set<String> RECURSIVE = Set.of(
        "MastMove.LawReader.readSum", "MastMove.LawReader.readTerm", "MastMove.LawReader.readFactor");
    private static final int MOST_PARAMETERS = 7;
    private static final int MOST_LINES = 60;
    private static final int DEEPEST = 8;
    private static final int MOST_CLASSES = 12;
    private static final int MOST_FIELDS = 20;

    private final CompilationUnitTree unit;
    private final Trees trees;
    private final Map<String, Set<String>> calls = new TreeMap<>();
    private final Set<String> publicNames = new TreeSet<>();
    private final Set<String> privateNames = new TreeSet<>();
    private int classes;

    private LanguageTest(CompilationUnitTree unit, Trees trees) {
        this.unit = unit;
        this.trees = trees;
    }

    public static void main(String[] args) throws IOException {
        JavaCompiler compiler = ToolProvider.getSystemJavaCompiler();
        try (StandardJavaFileManager files = compiler.getStandardFileManager(null, null, null)) {
            JavacTask task = (JavacTask) compiler.getTask(
                null, files, null, List.of("-proc:none"), null, files.getJavaFileObjects(PROGRAM));
            CompilationUnitTree unit = task.parse().iterator().next();
            task.analyze();
            LanguageTest test = new LanguageTest(unit, Trees.instance(task));
            test.scan(unit, null);
            test.wholeFile();
        }
        CHECK.finish();
    }

    private void holds(String rule, Tree tree, boolean is) {
        long at = trees.getSourcePositions().getStartPosition(unit, tree);
        CHECK.due("rule " + rule + ", line " + unit.getLineMap().getLineNumber(at), is, true);
    }

    private long lineOf(long position) {
        return unit.getLineMap().getLineNumber(position);
    }

    private Element here() {
        return trees.getElement(getCurrentPath());
    }

    private String typeHere() {
        return String.valueOf(trees.getTypeMirror(getCurrentPath()));
    }

    private String typeOf(Tree part) {
        TypeMirror type = trees.getTypeMirror(new TreePath(getCurrentPath(), part));
        return String.valueOf(type);
    }

    private static boolean isText(String type) {
        return type.equals("java.lang.String") || type.equals("java.lang.Integer");
    }

    private static boolean isOwn(String type) {
        return type.equals("MastMove") || type.startsWith("MastMove.");
    }

    private static boolean isAllowed(String type) {
        String element = type.replace("[]", "");
        int dimensions = (type.length() - element.length()) / 2;
        if (NUMBERS.contains(element)) {
            return dimensions <= 2;
        }
        return isOwn(element) ? dimensions <= 1 : element.equals("java.lang.String") && dimensions == 0;
    }

    private static String nameOf(Element method) {
        return method.getEnclosingElement() + "." + method.getSimpleName();
    }

    private String methodAround() {
        for (TreePath path = getCurrentPath(); path != null; path = path.getParentPath()) {
            if (path.getLeaf() instanceof MethodTree) {
                return nameOf(trees.getElement(path));
            }
        }
        return "";
    }

    private void called(String name) {
        calls.computeIfAbsent(methodAround(), none -> new TreeSet<>()).add(name);
    }

    @Override
    public Void visitClass(ClassTree tree, Void none) {
        classes++;
        boolean isInside = getCurrentPath().getParentPath().getLeaf() instanceof ClassTree;
        Set<Modifier> modifiers = tree.getModifiers().getFlags();
        if (isInside) {
            holds("1 and 2: static and not public", tree, modifiers.contains(Modifier.STATIC)
                && !modifiers.contains(Modifier.PUBLIC) && !modifiers.contains(Modifier.PROTECTED));
        } else {
            boolean isOuter = getCurrentPath().getParentPath().getLeaf() == unit;
            holds("2: no local class, one of its own file", tree, isOuter && tree.getSimpleName().contentEquals("MastMove"));
        }
        int fields = 0;
        for (Tree member : tree.getMembers()) {
            boolean isField = member instanceof VariableTree;
            boolean isConstant = isField && ((VariableTree) member).getModifiers().getFlags().contains(Modifier.STATIC);
            fields += isField && !isConstant ? 1 : 0;
            holds("5: no block", member, !(member instanceof BlockTree));
        }
        holds("11: fields", tree, fields <= MOST_FIELDS);
        return super.visitClass(tree, none);
    }

    @Override
    public Void visitMethod(MethodTree tree, Void none) {
        Set<Modifier> modifiers = tree.getModifiers().getFlags();
        if (modifiers.contains(Modifier.PUBLIC)) {
            publicNames.add(tree.getName().toString());
        } else if (modifiers.contains(Modifier.PRIVATE)) {
            privateNames.add(tree.getName().toString());
        }
        holds("6: throws nothing", tree, tree.getThrows().isEmpty());
        holds("11: parameters", tree, tree.getParameters().size() <= MOST_PARAMETERS);
        long from = lineOf(trees.getSourcePositions().getStartPosition(unit, tree));
        long to = lineOf(trees.getSourcePositions().getEndPosition(unit, tree));
        if (from > 0 && to > 0) {
            holds("11: lines", tree, to - from < MOST_LINES);
        }
        return super.visitMethod(tree, none);
    }

    @Override
    public Void visitVariable(VariableTree tree, Void none) {
        holds("3: type " + typeHere(), tree, isAllowed(typeHere()));
        Set<Modifier> modifiers = tree.getModifiers().getFlags();
        if (modifiers.contains(Modifier.STATIC)) {
            holds("5: static", tree, modifiers.contains(Modifier.FINAL) && CONSTANTS.contains(typeHere())
                && tree.getInitializer() != null);
        }
        return super.visitVariable(tree, none);
    }

    @Override
    public Void visitMethodInvocation(MethodInvocationTree tree, Void none) {
        String name = nameOf(here());
        if (isOwn(here().getEnclosingElement().toString())) {
            called(name);
        } else {
            holds("4: " + name, tree, LIBRARY.contains(name));
        }
        return super.visitMethodInvocation(tree, none);
    }

    @Override
    public Void visitNewClass(NewClassTree tree, Void none) {
        String type = typeHere();
        holds("4: new " + type, tree, isOwn(type));
        holds("2: no body", tree, tree.getClassBody() == null);
        holds("12: made with the object", tree, isInConstructor());
        called(type + ".<init>");
        return super.visitNewClass(tree, none);
    }

    @Override
    public Void visitNewArray(NewArrayTree tree, Void none) {
        holds("12: made with the object", tree, isInConstructor());
        return super.visitNewArray(tree, none);
    }

    private boolean isInConstructor() {
        return methodAround().isEmpty() || methodAround().endsWith(".<init>");
    }

    @Override
    public Void visitBinary(BinaryTree tree, Void none) {
        boolean areTexts = isText(typeOf(tree.getLeftOperand())) || isText(typeOf(tree.getRightOperand()));
        holds("6 and 10: no sign between texts", tree, !areTexts);
        return super.visitBinary(tree, none);
    }

    @Override
    public Void visitCompoundAssignment(CompoundAssignmentTree tree, Void none) {
        holds("10: no += of texts", tree, !isText(typeOf(tree.getVariable())));
        return super.visitCompoundAssignment(tree, none);
    }

    @Override
    public Void visitTypeCast(TypeCastTree tree, Void none) {
        holds("6: only numbers are cast here", tree, NUMBERS.contains(typeHere()));
        return super.visitTypeCast(tree, none);
    }

    @Override
    public Void visitInstanceOf(InstanceOfTree tree, Void none) {
        holds("6: nothing here is asked for its class", tree, false);
        return super.visitInstanceOf(tree, none);
    }

    @Override
    public Void visitLambdaExpression(LambdaExpressionTree tree, Void none) {
        holds("2: lambda", tree, false);
        return super.visitLambdaExpression(tree, none);
    }

    @Override
    public Void visitMemberReference(MemberReferenceTree tree, Void none) {
        holds("2: method reference", tree, false);
        return super.visitMemberReference(tree, none);
    }

    @Override
    public Void visitThrow(ThrowTree tree, Void none) {
        holds("6: throw", tree, false);
        return super.visitThrow(tree, none);
    }

    @Override
    public Void visitTry(TryTree tree, Void none) {
        holds("6: try", tree, false);
        return super.visitTry(tree, none);
    }

    @Override
    public Void visitSynchronized(SynchronizedTree tree, Void none) {
        holds("6: synchronized", tree, false);
        return super.visitSynchronized(tree, none);
    }

    @Override
    public Void visitAssert(AssertTree tree, Void none) {
        holds("6: assert", tree, false);
        return super.visitAssert(tree, none);
    }

    private void wholeFile() {
        CHECK.due("no package", unit.getPackage() == null, true);
        CHECK.due("rule 11: classes", classes <= MOST_CLASSES, true);
        for (String name : privateNames) {
            CHECK.due("rule 1: a public name of a private method " + name, publicNames.contains(name)
                && !name.equals("<init>"), false);
        }
        for (String method : calls.keySet()) {
            CHECK.due("rule 8: recursion of " + method, reaches(method, method, new TreeSet<>()), RECURSIVE.contains(method));
            CHECK.due("rule 11: calls from " + method, depthFrom(method, new TreeSet<>()) <= DEEPEST, true);
        }
    }

    private boolean reaches(String from, String to, Set<String> seen) {
        for (String next : calls.getOrDefault(from, Set.of())) {
            if (next.equals(to) || seen.add(next) && reaches(next, to, seen)) {
                return true;
            }
        }
        return false;
    }

    /** The most methods of the program that stand open at once, each of the recursion's once. */
    private int depthFrom(String method, Set<String> open) {
        if (!open.add(method)) {
            return 0;
        }
        int deepest = 0;
        for (String next : calls.getOrDefault(method, Set.of())) {
            deepest = Math.max(deepest, depthFrom(next, open));
        }
        open.remove(method);
        return deepest + 1;
    }
}
