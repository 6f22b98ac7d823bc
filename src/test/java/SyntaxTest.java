import com.sun.source.tree.ArrayTypeTree;
import com.sun.source.tree.BinaryTree;
import com.sun.source.tree.ClassTree;
import com.sun.source.tree.CompilationUnitTree;
import com.sun.source.tree.ForLoopTree;
import com.sun.source.tree.MethodInvocationTree;
import com.sun.source.tree.MethodTree;
import com.sun.source.tree.NewArrayTree;
import com.sun.source.tree.NewClassTree;
import com.sun.source.tree.Tree;
import com.sun.source.tree.Tree.Kind;
import com.sun.source.tree.VariableTree;
import com.sun.source.util.JavacTask;
import com.sun.source.util.TreePath;
import com.sun.source.util.TreePathScanner;
import com.sun.source.util.Trees;
import java.io.IOException;
import java.nio.file.Path;
import java.util.EnumSet;
import java.util.HashMap;
import java.util.HashSet;
import java.util.List;
import java.util.Map;
import java.util.Set;
import java.util.TreeSet;
import javax.lang.model.element.Element;
import javax.lang.model.element.ElementKind;
import javax.lang.model.element.ExecutableElement;
import javax.lang.model.element.Modifier;
import javax.lang.model.element.TypeElement;
import javax.lang.model.type.TypeMirror;
import javax.tools.JavaCompiler;
import javax.tools.StandardJavaFileManager;
import javax.tools.ToolProvider;

/** What the syntax tree of the program tells of the rules of LANGUAGE.md: what is called, how deep, and by what. */
public final class SyntaxTest extends TreePathScanner<Void, Void> {
    private static final Due DUE = new Due();
    private static final int DEEPEST = 8;
    private static final Set<String> LIBRARY = Set.of("java.lang.Math.abs", "java.lang.Math.max", "java.lang.Math.min",
            "java.util.Arrays.fill", "java.util.Arrays.copyOf", "java.util.Arrays.copyOfRange", "java.lang.System.arraycopy");
    private static final Set<String> LENT_TYPES = Set.of("int", "long", "boolean", "void");
    private static final Set<Kind> RULED_OUT = EnumSet.of(Kind.THROW, Kind.TRY, Kind.CATCH, Kind.SYNCHRONIZED, Kind.ASSERT,
            Kind.LAMBDA_EXPRESSION, Kind.MEMBER_REFERENCE, Kind.INSTANCE_OF, Kind.WHILE_LOOP, Kind.DO_WHILE_LOOP,
            Kind.DOUBLE_LITERAL, Kind.FLOAT_LITERAL, Kind.STRING_LITERAL, Kind.ANNOTATION, Kind.ENUM, Kind.RECORD);

    private final Trees trees;
    private final Map<Element, Set<Element>> callsOf = new HashMap<>();
    private final Set<String> used = new TreeSet<>();
    private Element method = null;

    private SyntaxTest(Trees trees) {
        this.trees = trees;
    }

    public static void main(String[] args) throws IOException {
        JavaCompiler compiler = ToolProvider.getSystemJavaCompiler();
        try (StandardJavaFileManager files = compiler.getStandardFileManager(null, null, null)) {
            JavacTask task = (JavacTask) compiler.getTask(null, files, null, List.of("-proc:none"), null,
                    files.getJavaFileObjects(Path.of("src/main/java/UnsoldAtEleven.java")));
            SyntaxTest all = new SyntaxTest(Trees.instance(task));
            Iterable<? extends CompilationUnitTree> units = task.parse();
            task.analyze();
            for (CompilationUnitTree unit : units) {
                DUE.of("no package", unit.getPackage() == null ? 1 : 0, 1);
                DUE.of("one class beside the file's others", unit.getTypeDecls().size(), 1);
                all.scan(unit, null);
            }
            all.library();
            all.depth();
        }
        DUE.end();
    }

    @Override
    public Void scan(Tree tree, Void nothing) {
        if (tree != null && RULED_OUT.contains(tree.getKind())) {
            DUE.of("in the source stands " + tree.getKind() + ": " + tree, 0, 1);
        }
        return super.scan(tree, nothing);
    }

    @Override
    public Void visitClass(ClassTree tree, Void nothing) {
        Element here = trees.getElement(getCurrentPath());
        Set<Modifier> modifiers = tree.getModifiers().getFlags();
        boolean outermost = here.getEnclosingElement().getKind() == ElementKind.PACKAGE;
        DUE.of(here + " stands in the file or is static inside", outermost || modifiers.contains(Modifier.STATIC) ? 1 : 0, 1);
        DUE.of(here + " can't be another's base", modifiers.contains(Modifier.FINAL) ? 1 : 0, 1);
        return super.visitClass(tree, nothing);
    }

    @Override
    public Void visitMethod(MethodTree tree, Void nothing) {
        Element before = method;
        method = trees.getElement(getCurrentPath());
        callsOf.putIfAbsent(method, new HashSet<>());
        if (tree.getReturnType() != null) {
            type(tree.getReturnType(), tree.getName().toString());
        }
        super.visitMethod(tree, nothing);
        method = before;
        return null;
    }

    @Override
    public Void visitVariable(VariableTree tree, Void nothing) {
        type(tree.getType(), tree.getName().toString());
        Set<Modifier> flags = tree.getModifiers().getFlags();
        if (flags.contains(Modifier.STATIC)) {
            DUE.of(tree.getName() + " is a constant", flags.contains(Modifier.FINAL) && tree.getInitializer() != null ? 1 : 0, 1);
        }
        return super.visitVariable(tree, nothing);
    }

    private void type(Tree tree, String of) {
        Tree one = tree instanceof ArrayTypeTree ? ((ArrayTypeTree) tree).getType() : tree;
        TypeMirror type = trees.getTypeMirror(new TreePath(getCurrentPath(), one));
        boolean isOwn = type.toString().equals("UnsoldAtEleven") || type.toString().startsWith("UnsoldAtEleven.");
        DUE.of(of + " is of type " + type, isOwn || LENT_TYPES.contains(type.toString()) ? 1 : 0, 1);
    }

    @Override
    public Void visitMethodInvocation(MethodInvocationTree tree, Void nothing) {
        ExecutableElement called = (ExecutableElement) trees.getElement(getCurrentPath());
        String owner = ((TypeElement) called.getEnclosingElement()).getQualifiedName().toString();
        boolean isOwn = owner.equals("UnsoldAtEleven") || owner.startsWith("UnsoldAtEleven.");
        // The call of a base's constructor, which the compiler writes, is no call of the source.
        if (!isOwn && !owner.equals("java.lang.Object")) {
            used.add(owner + "." + called.getSimpleName());
        }
        if (isOwn && method != null) {
            callsOf.get(method).add(called);
        }
        return super.visitMethodInvocation(tree, nothing);
    }

    @Override
    public Void visitNewClass(NewClassTree tree, Void nothing) {
        DUE.of("without a body of its own: " + tree, tree.getClassBody() == null ? 1 : 0, 1);
        madeByAConstructor(tree);
        return super.visitNewClass(tree, nothing);
    }

    @Override
    public Void visitNewArray(NewArrayTree tree, Void nothing) {
        madeByAConstructor(tree);
        return super.visitNewArray(tree, nothing);
    }

    /** All calls of a run live in one room. */
    private void madeByAConstructor(Tree tree) {
        boolean atFirst = method == null || method.getKind() == ElementKind.CONSTRUCTOR;
        DUE.of("only a constructor makes " + tree, atFirst ? 1 : 0, 1);
    }

    @Override
    public Void visitForLoop(ForLoopTree tree, Void nothing) {
        DUE.of("an end can be seen: " + tree, tree.getCondition() != null && tree.getUpdate().size() == 1 ? 1 : 0, 1);
        return super.visitForLoop(tree, nothing);
    }

    @Override
    public Void visitBinary(BinaryTree tree, Void nothing) {
        String type = trees.getTypeMirror(getCurrentPath()).toString();
        DUE.of(tree + " is a number or not", LENT_TYPES.contains(type) ? 1 : 0, 1);
        return super.visitBinary(tree, nothing);
    }

    private void library() {
        used.removeAll(LIBRARY);
        DUE.of("of the library it calls " + used, used.size(), 0);
    }

    private void depth() {
        int deepest = 0;
        for (Element from : callsOf.keySet()) {
            deepest = Math.max(deepest, deepFrom(from, new HashSet<>()));
        }
        DUE.of("calls go " + deepest + " deep", deepest <= DEEPEST ? 1 : 0, 1);
    }

    private int deepFrom(Element from, Set<Element> open) {
        if (!open.add(from)) {
            DUE.of(from + " calls itself", 0, 1);
            return 0;
        }
        int deepest = 0;
        for (Element to : callsOf.getOrDefault(from, Set.of())) {
            deepest = Math.max(deepest, deepFrom(to, open));
        }
        open.remove(from);
        return deepest + 1;
    }
}
