import com.sun.source.tree.BinaryTree;
import com.sun.source.tree.BlockTree;
import com.sun.source.tree.ClassTree;
import com.sun.source.tree.CompilationUnitTree;
import com.sun.source.tree.ExpressionTree;
import com.sun.source.tree.ImportTree;
import com.sun.source.tree.LiteralTree;
import com.sun.source.tree.MethodInvocationTree;
import com.sun.source.tree.MethodTree;
import com.sun.source.tree.NewClassTree;
import com.sun.source.tree.Tree;
import com.sun.source.tree.VariableTree;
import com.sun.source.util.JavacTask;
import com.sun.source.util.TreePath;
import com.sun.source.util.TreePathScanner;
import com.sun.source.util.Trees;
import java.nio.file.Path;
import java.util.HashMap;
import java.util.HashSet;
import java.util.LinkedHashSet;
import java.util.List;
import java.util.Map;
import java.util.Set;
import javax.lang.model.element.Element;
import javax.lang.model.element.Modifier;
import javax.tools.JavaCompiler;
import javax.tools.StandardJavaFileManager;
import javax.tools.ToolProvider;

/** The rules of ../shared/LANGUAGE.md that can be read from the source: what is used, how deep, how long. */
final class LanguageTest extends TreePathScanner<Void, Void> {
    private static final Set<String> LIBRARY = Set.of("System.arraycopy", "Math.min", "Math.max", "Math.abs");
    private static final Set<String> EXCEPTIONS = Set.of("IllegalStateException", "IllegalArgumentException",
            "IndexOutOfBoundsException");
    private static final Set<Tree.Kind> FORBIDDEN = Set.of(Tree.Kind.LAMBDA_EXPRESSION, Tree.Kind.MEMBER_REFERENCE,
            Tree.Kind.TRY, Tree.Kind.SYNCHRONIZED, Tree.Kind.ASSERT, Tree.Kind.SWITCH_EXPRESSION,
            Tree.Kind.TYPE_CAST);
    private static final Checks CHECKS = new Checks();

    private final Trees trees;
    private final CompilationUnitTree unit;
    private final Map<Element, Set<Element>> calls = new HashMap<>();
    private final Set<Element> open = new HashSet<>();
    private final Set<String> publicNames = new HashSet<>();
    private final Set<String> privateNames = new HashSet<>();
    private Element inMethod;
    private int classes;

    private LanguageTest(Trees trees, CompilationUnitTree unit) {
        this.trees = trees;
        this.unit = unit;
    }

    public static void main(String[] args) throws Exception {
        CHECKS.at("language");
        String root = System.getenv().getOrDefault("PROJECT_ROOT", ".");
        JavaCompiler compiler = ToolProvider.getSystemJavaCompiler();
        try (StandardJavaFileManager files = compiler.getStandardFileManager(null, null, null)) {
            Path source = Path.of(root, "src", "main", "java", "PebbleCourses.java");
            JavacTask task = (JavacTask) compiler.getTask(null, files, null, List.of("-proc:none"), null,
                    files.getJavaFileObjects(source));
            CompilationUnitTree unit = task.parse().iterator().next();
            task.analyze();
            new LanguageTest(Trees.instance(task), unit).check();
        }
        CHECKS.end();
    }

    private void check() {
        scan(unit, null);
        CHECKS.holds("rule 1: no package", unit.getPackage() == null);
        CHECKS.holds("rule 1: one class beside those inside it", unit.getTypeDecls().size() == 1);
        CHECKS.holds("rule 11: at most 12 classes", classes <= 12);
        privateNames.retainAll(publicNames);
        CHECKS.holds("rule 1: no private method is named as a public one: " + privateNames, privateNames.isEmpty());
        for (Element method : calls.keySet()) {
            int depth = depth(method);
            CHECKS.holds("rule 11: " + method + " goes " + depth + " deep, 8 at most", depth <= 8);
        }
    }

    private int depth(Element method) {
        CHECKS.holds("no recursion: " + method, open.add(method));
        int deepest = 0;
        if (open.size() < 100) {
            for (Element called : calls.getOrDefault(method, Set.of())) {
                deepest = Math.max(deepest, depth(called));
            }
        }
        open.remove(method);
        return deepest + 1;
    }

    @Override
    public Void scan(Tree tree, Void nothing) {
        if (tree != null && FORBIDDEN.contains(tree.getKind())) {
            boolean isPlainCast = tree.getKind() == Tree.Kind.TYPE_CAST
                    && tree.toString().matches("\\((int|long|double|char)\\).*");
            CHECKS.holds("left out by the rules: " + tree, isPlainCast);
        }
        return super.scan(tree, nothing);
    }

    @Override
    public Void visitImport(ImportTree tree, Void nothing) {
        CHECKS.holds("rule 4: needs no " + tree, false);
        return super.visitImport(tree, nothing);
    }

    @Override
    public Void visitClass(ClassTree tree, Void nothing) {
        classes++;
        int fields = 0;
        for (Tree member : tree.getMembers()) {
            if (member instanceof BlockTree) {
                CHECKS.holds("rule 5: no initialiser block", false);
            }
            if (member instanceof VariableTree field) {
                Set<Modifier> modifiers = field.getModifiers().getFlags();
                boolean isStatic = modifiers.contains(Modifier.STATIC);
                fields += isStatic ? 0 : 1;
                CHECKS.holds("rule 5: final: " + field, !isStatic || modifiers.contains(Modifier.FINAL));
            }
        }
        CHECKS.holds("rule 11: some twenty fields: " + tree.getSimpleName(), fields <= 20);
        return super.visitClass(tree, nothing);
    }

    @Override
    public Void visitMethod(MethodTree tree, Void nothing) {
        Element before = inMethod;
        inMethod = trees.getElement(getCurrentPath());
        calls.put(inMethod, new LinkedHashSet<>());
        boolean isPublic = tree.getModifiers().getFlags().contains(Modifier.PUBLIC);
        (isPublic ? publicNames : privateNames).add(tree.getName().toString().replace("<init>", inMethod.toString()));
        CHECKS.holds("rule 11: at most 7 parameters: " + inMethod, tree.getParameters().size() <= 7);
        long lines = lineAt(trees.getSourcePositions().getEndPosition(unit, tree))
                - lineAt(trees.getSourcePositions().getStartPosition(unit, tree)) + 1;
        CHECKS.holds("rule 11: at most 60 lines: " + inMethod, lines <= 60);
        super.visitMethod(tree, nothing);
        inMethod = before;
        return null;
    }

    private long lineAt(long position) {
        return position < 0 ? 0 : unit.getLineMap().getLineNumber(position);
    }

    @Override
    public Void visitMethodInvocation(MethodInvocationTree tree, Void nothing) {
        Element called = trees.getElement(new TreePath(getCurrentPath(), tree.getMethodSelect()));
        String owner = called.getEnclosingElement().toString();
        boolean isOwn = owner.startsWith("PebbleCourses");
        boolean isParent = tree.getMethodSelect().toString().equals("super");
        CHECKS.holds("rule 4: " + tree, isOwn || isParent || LIBRARY.contains(tree.getMethodSelect().toString()));
        if (inMethod != null && !isParent) {
            calls.get(inMethod).add(called);
        }
        return super.visitMethodInvocation(tree, nothing);
    }

    @Override
    public Void visitNewClass(NewClassTree tree, Void nothing) {
        Element made = trees.getElement(getCurrentPath()).getEnclosingElement();
        if (!made.toString().startsWith("PebbleCourses")) {
            boolean isWritten = tree.getArguments().stream().allMatch(LiteralTree.class::isInstance);
            CHECKS.holds("rule 6: " + tree, isWritten && EXCEPTIONS.contains(made.getSimpleName().toString()));
        }
        return super.visitNewClass(tree, nothing);
    }

    @Override
    public Void visitBinary(BinaryTree tree, Void nothing) {
        boolean isText = isText(tree.getLeftOperand()) || isText(tree.getRightOperand());
        CHECKS.holds("rule 10: no texts joined or compared: " + tree, !isText);
        return super.visitBinary(tree, nothing);
    }

    private boolean isText(ExpressionTree tree) {
        return trees.getTypeMirror(new TreePath(getCurrentPath(), tree)).toString().equals("java.lang.String");
    }
}
