import com.sun.source.tree.BinaryTree;
import com.sun.source.tree.BlockTree;
import com.sun.source.tree.ClassTree;
import com.sun.source.tree.CompilationUnitTree;
import com.sun.source.tree.CompoundAssignmentTree;
import com.sun.source.tree.ExpressionTree;
import com.sun.source.tree.ImportTree;
import com.sun.source.tree.LambdaExpressionTree;
import com.sun.source.tree.LiteralTree;
import com.sun.source.tree.MemberReferenceTree;
import com.sun.source.tree.MethodInvocationTree;
import com.sun.source.tree.MethodTree;
import com.sun.source.tree.NewArrayTree;
import com.sun.source.tree.NewClassTree;
import com.sun.source.tree.SynchronizedTree;
import com.sun.source.tree.ThrowTree;
import com.sun.source.tree.Tree;
import com.sun.source.tree.TryTree;
import com.sun.source.tree.VariableTree;
import com.sun.source.util.JavacTask;
import com.sun.source.util.SourcePositions;
import com.sun.source.util.TreePath;
import com.sun.source.util.TreePathScanner;
import com.sun.source.util.Trees;
import java.io.File;
import java.util.HashMap;
import java.util.LinkedHashSet;
import java.util.List;
import java.util.Map;
import java.util.Set;
import java.util.TreeSet;
import javax.lang.model.element.Element;
import javax.lang.model.element.ExecutableElement;
import javax.lang.model.element.Modifier;
import javax.lang.model.type.TypeMirror;
import javax.tools.JavaCompiler;
import javax.tools.StandardJavaFileManager;
import javax.tools.ToolProvider;

/**
 * What can be counted of the rules of ../shared/LANGUAGE.md. Where the class does with less than a rule
 * allows (it catches nothing, and makes nothing behind its constructors), this test asks for the less.
 */
public final class LanguageTest extends TreePathScanner<Void, Void> {
    private static final String FILE = "src/main/java/VectorVersions.java";
    private static final int MOST_CLASSES = 12;
    private static final int MOST_FIELDS = 20;
    private static final int MOST_PARAMETERS = 7;
    private static final int MOST_LINES = 60;
    private static final int DEEPEST_CHAIN = 8;
    private static final Set<String> IMPORTS = Set.of("java.util.NoSuchElementException");
    private static final Set<String> EXCEPTIONS = Set.of(
        "IllegalStateException", "IllegalArgumentException", "IndexOutOfBoundsException", "NoSuchElementException");
    private static final Set<String> TYPES = Set.of(
        "void", "int", "long", "boolean", "double", "float", "int[]", "boolean[]", "java.lang.String");
    private static final Set<String> CONSTANT_TYPES = Set.of("int", "long", "boolean", "char", "java.lang.String", "int[]");
    private static final Set<String> LIBRARY = Set.of(
        "java.lang.Object()", "java.lang.String.length", "java.lang.String.charAt",
        "java.lang.Math.max", "java.lang.Math.min", "java.lang.Math.abs");

    private final Trees trees;
    private final CompilationUnitTree unit;
    private final Set<String> faceNames = new TreeSet<>();
    private final Map<Element, Set<Element>> callsOf = new HashMap<>();
    private int classes = 0;

    private LanguageTest(Trees trees, CompilationUnitTree unit) {
        this.trees = trees;
        this.unit = unit;
    }

    public static void main(String[] args) throws Exception {
        JavaCompiler compiler = ToolProvider.getSystemJavaCompiler();
        try (StandardJavaFileManager files = compiler.getStandardFileManager(null, null, null)) {
            JavacTask task = (JavacTask) compiler.getTask(
                null, files, null, List.of("-proc:none"), null, files.getJavaFileObjects(new File(FILE)));
            CompilationUnitTree unit = task.parse().iterator().next();
            task.analyze();
            new LanguageTest(Trees.instance(task), unit).hold();
        }
        Expect.finish("LanguageTest");
    }

    private void hold() {
        for (java.lang.reflect.Method method : VectorVersions.class.getDeclaredMethods()) {
            if (java.lang.reflect.Modifier.isPublic(method.getModifiers())) {
                faceNames.add(method.getName());
            }
        }
        scan(unit, null);
        Expect.same("rule 11: at most " + MOST_CLASSES + " classes, not " + classes, true, classes <= MOST_CLASSES);
        for (Element method : callsOf.keySet()) {
            int chain = longestChain(method);
            Expect.same("rule 11: chain of " + chain + " calls from " + method, true, chain <= DEEPEST_CHAIN);
        }
    }

    /** The calls that stand open at once, without those of a method to itself; others may not come back. */
    private int longestChain(Element method) {
        return longestChain(method, 1);
    }

    private int longestChain(Element method, int above) {
        int longest = 1;
        for (Element called : callsOf.getOrDefault(method, Set.of())) {
            if (called != method && above <= DEEPEST_CHAIN) {
                longest = Math.max(longest, 1 + longestChain(called, above + 1));
            }
        }
        return longest;
    }

    private String at(Tree tree) {
        return "line " + unit.getLineMap().getLineNumber(start(tree)) + ": ";
    }

    private long start(Tree tree) {
        return trees.getSourcePositions().getStartPosition(unit, tree);
    }

    private int linesOf(Tree tree) {
        SourcePositions positions = trees.getSourcePositions();
        long last = unit.getLineMap().getLineNumber(positions.getEndPosition(unit, tree));
        return (int) (last - unit.getLineMap().getLineNumber(start(tree)) + 1);
    }

    private <T extends Tree> T enclosing(Class<T> kind) {
        for (TreePath path = getCurrentPath(); path != null; path = path.getParentPath()) {
            if (kind.isInstance(path.getLeaf())) {
                return kind.cast(path.getLeaf());
            }
        }
        return null;
    }

    private String typeOf(Tree tree) {
        TypeMirror type = trees.getTypeMirror(new TreePath(getCurrentPath(), tree));
        return type == null ? "" : type.toString();
    }

    private static boolean isOwn(String type) {
        return type.equals("VectorVersions") || type.startsWith("VectorVersions.");
    }

    private void never(String rule, Tree tree) {
        Expect.same(at(tree) + rule, "nothing of this kind", tree.getKind());
    }

    private void holds(String rule, Tree tree, boolean held) {
        Expect.same(at(tree) + rule, true, held);
    }

    // ---- rules 1, 2, 5 and 11: classes and their members ----

    @Override
    public Void visitImport(ImportTree tree, Void none) {
        holds("rule 4: import of " + tree.getQualifiedIdentifier(), tree,
            IMPORTS.contains(tree.getQualifiedIdentifier().toString()));
        return null;
    }

    @Override
    public Void visitClass(ClassTree tree, Void none) {
        classes++;
        boolean inside = enclosing(MethodTree.class) != null;
        holds("rule 2: no local or anonymous class", tree, !inside);
        long fields = tree.getMembers().stream().filter(this::isField).count();
        holds("rule 11: " + fields + " fields of " + tree.getSimpleName(), tree, fields <= MOST_FIELDS);
        return super.visitClass(tree, none);
    }

    private boolean isField(Tree member) {
        return member instanceof VariableTree field && !field.getModifiers().getFlags().contains(Modifier.STATIC);
    }

    @Override
    public Void visitMethod(MethodTree tree, Void none) {
        String name = tree.getName().toString();
        boolean ofFace = tree.getModifiers().getFlags().contains(Modifier.PUBLIC);
        holds("rule 1: " + name + " bears the name of a public method", tree, ofFace || !faceNames.contains(name));
        holds("rule 11: parameters of " + name, tree, tree.getParameters().size() <= MOST_PARAMETERS);
        holds("rule 11: lines of " + name, tree, linesOf(tree) <= MOST_LINES);
        if (tree.getReturnType() != null) {
            holdType(tree, typeOf(tree.getReturnType()));
        }
        return super.visitMethod(tree, none);
    }

    @Override
    public Void visitBlock(BlockTree tree, Void none) {
        holds("rule 5: no static initialiser", tree, !tree.isStatic());
        return super.visitBlock(tree, none);
    }

    @Override
    public Void visitVariable(VariableTree tree, Void none) {
        holdType(tree, typeOf(tree.getType()));
        Set<Modifier> flags = tree.getModifiers().getFlags();
        if (flags.contains(Modifier.STATIC)) {
            holds("rule 5: static and not final", tree, flags.contains(Modifier.FINAL));
            holds("rule 5: type of a constant", tree, CONSTANT_TYPES.contains(typeOf(tree.getType())));
        }
        return super.visitVariable(tree, none);
    }

    private void holdType(Tree tree, String type) {
        holds("rule 3: type " + type, tree, TYPES.contains(type) || isOwn(type));
    }

    // ---- rule 4: the library; rule 11: chains of calls ----

    @Override
    public Void visitMethodInvocation(MethodInvocationTree tree, Void none) {
        ExecutableElement called = (ExecutableElement) trees.getElement(getCurrentPath());
        String owner = called.getEnclosingElement().toString();
        String name = called.getSimpleName().contentEquals("<init>") ? "()" : "." + called.getSimpleName();
        holds("rule 4: call of " + owner + name, tree, isOwn(owner) || LIBRARY.contains(owner + name));
        MethodTree caller = enclosing(MethodTree.class);
        if (isOwn(owner) && caller != null) {
            Element element = trees.getElement(trees.getPath(unit, caller));
            callsOf.computeIfAbsent(element, key -> new LinkedHashSet<>()).add(called);
        }
        return super.visitMethodInvocation(tree, none);
    }

    // ---- rules 6 and 12: what is thrown, caught and made ----

    @Override
    public Void visitThrow(ThrowTree tree, Void none) {
        MethodTree method = enclosing(MethodTree.class);
        holds("rule 6: no throw in a constructor", tree, method != null && method.getReturnType() != null);
        boolean fresh = tree.getExpression() instanceof NewClassTree;
        holds("rule 6: throw new", tree, fresh);
        if (fresh) {
            NewClassTree made = (NewClassTree) tree.getExpression();
            holds("rule 6: exception", tree, EXCEPTIONS.contains(made.getIdentifier().toString()));
            for (ExpressionTree text : made.getArguments()) {
                holds("rule 6: a written text", tree, text instanceof LiteralTree);
            }
        }
        return super.visitThrow(tree, none);
    }

    @Override
    public Void visitTry(TryTree tree, Void none) {
        never("rule 6: the class has no need of try", tree);
        return super.visitTry(tree, none);
    }

    @Override
    public Void visitNewClass(NewClassTree tree, Void none) {
        holds("rule 12: made in a call", tree, isOfField() || enclosing(ThrowTree.class) != null);
        return super.visitNewClass(tree, none);
    }

    @Override
    public Void visitNewArray(NewArrayTree tree, Void none) {
        holds("rule 12: made in a call", tree, isOfField());
        return super.visitNewArray(tree, none);
    }

    private boolean isOfField() {
        return enclosing(MethodTree.class) == null;
    }

    // ---- rules 2, 6 and 10: forms that the class goes without ----

    @Override
    public Void visitLambdaExpression(LambdaExpressionTree tree, Void none) {
        never("rule 2", tree);
        return super.visitLambdaExpression(tree, none);
    }

    @Override
    public Void visitMemberReference(MemberReferenceTree tree, Void none) {
        never("rule 2", tree);
        return super.visitMemberReference(tree, none);
    }

    @Override
    public Void visitSynchronized(SynchronizedTree tree, Void none) {
        never("rule 6", tree);
        return super.visitSynchronized(tree, none);
    }

    @Override
    public Void visitBinary(BinaryTree tree, Void none) {
        holds("rule 10: texts joined by +", tree, !trees.getTypeMirror(getCurrentPath()).toString().endsWith("String"));
        return super.visitBinary(tree, none);
    }

    @Override
    public Void visitCompoundAssignment(CompoundAssignmentTree tree, Void none) {
        holds("rule 10: texts joined by +", tree, !trees.getTypeMirror(getCurrentPath()).toString().endsWith("String"));
        return super.visitCompoundAssignment(tree, none);
    }
}
