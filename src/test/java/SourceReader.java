import java.io.IOException;
import java.io.Writer;
import java.util.ArrayList;
import java.util.HashMap;
import java.util.List;
import java.util.Map;
import java.util.Set;
import java.util.TreeMap;
import java.util.TreeSet;
import javax.lang.model.element.Element;
import javax.lang.model.element.ElementKind;
import javax.lang.model.element.Modifier;
import javax.lang.model.element.TypeElement;
import javax.lang.model.element.VariableElement;
import javax.tools.JavaCompiler;
import javax.tools.StandardJavaFileManager;
import javax.tools.ToolProvider;

import com.sun.source.tree.ArrayAccessTree;
import com.sun.source.tree.AssignmentTree;
import com.sun.source.tree.BinaryTree;
import com.sun.source.tree.BlockTree;
import com.sun.source.tree.ClassTree;
import com.sun.source.tree.CompilationUnitTree;
import com.sun.source.tree.CompoundAssignmentTree;
import com.sun.source.tree.DoWhileLoopTree;
import com.sun.source.tree.ExpressionTree;
import com.sun.source.tree.ForLoopTree;
import com.sun.source.tree.LiteralTree;
import com.sun.source.tree.MethodInvocationTree;
import com.sun.source.tree.MethodTree;
import com.sun.source.tree.NewArrayTree;
import com.sun.source.tree.NewClassTree;
import com.sun.source.tree.ThrowTree;
import com.sun.source.tree.Tree;
import com.sun.source.tree.UnaryTree;
import com.sun.source.tree.VariableTree;
import com.sun.source.tree.WhileLoopTree;
import com.sun.source.util.JavacTask;
import com.sun.source.util.TreePath;
import com.sun.source.util.TreePathScanner;
import com.sun.source.util.Trees;

/** Reads a source by the compiler's own eyes and notes what LANGUAGE.md speaks of. */
final class SourceReader extends TreePathScanner<Void, Void> {
    final List<String> faults = new ArrayList<>();
    final Set<Tree.Kind> kinds = new TreeSet<>();
    final Set<String> types = new TreeSet<>();
    final Set<String> library = new TreeSet<>();
    final Set<String> thrown = new TreeSet<>();
    final List<String> thrownOtherwise = new ArrayList<>();
    final List<String> thrownInConstructors = new ArrayList<>();
    final List<String> localClasses = new ArrayList<>();
    final List<String> notWrittenOut = new ArrayList<>();
    final List<String> staticsAssigned = new ArrayList<>();
    final List<String> endlessLoops = new ArrayList<>();
    final List<String> joined = new ArrayList<>();
    final List<String> madeElsewhere = new ArrayList<>();
    boolean hasPackage = false;
    boolean hasStaticBlock = false;
    int classes = 0;
    int loops = 0;

    private final Map<String, Set<String>> calls = new TreeMap<>();
    private final Map<String, Integer> lines = new HashMap<>();
    private final Map<String, Integer> parameters = new HashMap<>();
    private final Trees trees;
    private CompilationUnitTree unit;

    private SourceReader(Trees trees) {
        this.trees = trees;
    }

    static SourceReader of(String path) throws IOException {
        JavaCompiler compiler = ToolProvider.getSystemJavaCompiler();
        try (StandardJavaFileManager files = compiler.getStandardFileManager(null, null, null)) {
            List<String> faults = new ArrayList<>();
            JavacTask task = (JavacTask) compiler.getTask(Writer.nullWriter(), files,
                fault -> faults.add(fault.toString()), List.of("--release", "17", "-proc:none"), null,
                files.getJavaFileObjects(path));
            SourceReader reader = new SourceReader(Trees.instance(task));
            for (CompilationUnitTree unit : task.parse()) {
                task.analyze();
                reader.unit = unit;
                reader.hasPackage = unit.getPackageName() != null;
                reader.scan(unit, null);
            }
            reader.faults.addAll(faults);
            return reader;
        }
    }

    Set<String> methods() {
        return calls.keySet();
    }

    int lines(String method) {
        return lines.get(method);
    }

    int parameters(String method) {
        return parameters.get(method);
    }

    /** How deep the calls from a method go, itself and the library's counted; no further than the limit. */
    int depth(String method, int limit) {
        int deepest = 0;
        if (limit > 1) {
            for (String called : calls.getOrDefault(method, Set.of())) {
                deepest = Math.max(deepest, depth(called, limit - 1));
            }
        }
        return 1 + deepest;
    }

    @Override
    public Void scan(Tree tree, Void none) {
        if (tree != null) {
            kinds.add(tree.getKind());
        }
        return super.scan(tree, none);
    }

    @Override
    public Void visitClass(ClassTree tree, Void none) {
        classes++;
        if (around(Tree.Kind.METHOD) != null) {
            localClasses.add(tree.getSimpleName().toString());
        }
        for (Tree member : tree.getMembers()) {
            hasStaticBlock |= member instanceof BlockTree && ((BlockTree) member).isStatic();
        }
        return super.visitClass(tree, none);
    }

    @Override
    public Void visitMethod(MethodTree tree, Void none) {
        String name = told(element());
        calls.put(name, new TreeSet<>());
        parameters.put(name, tree.getParameters().size());
        lines.put(name, line(trees.getSourcePositions().getEndPosition(unit, tree))
            - line(trees.getSourcePositions().getStartPosition(unit, tree)) + 1);
        if (tree.getReturnType() != null) {
            types.add(tree.getReturnType().toString());
        }
        return super.visitMethod(tree, none);
    }

    @Override
    public Void visitVariable(VariableTree tree, Void none) {
        types.add(tree.getType().toString());
        Element field = element();
        if (field.getModifiers().contains(Modifier.STATIC) && !isWrittenOut(tree.getInitializer(), field)) {
            notWrittenOut.add(tree.getName().toString());
        }
        return super.visitVariable(tree, none);
    }

    @Override
    public Void visitMethodInvocation(MethodInvocationTree tree, Void none) {
        Element called = element();
        note(called);
        if (!isOwn(called) && called.getKind() != ElementKind.CONSTRUCTOR) {
            library.add(told(called).replaceAll("\\(.*", ""));
        }
        return super.visitMethodInvocation(tree, none);
    }

    @Override
    public Void visitNewClass(NewClassTree tree, Void none) {
        note(element());
        boolean toThrow = getCurrentPath().getParentPath().getLeaf().getKind() == Tree.Kind.THROW;
        if (!toThrow && !isInConstructor()) {
            madeElsewhere.add(tree.toString());
        }
        return super.visitNewClass(tree, none);
    }

    @Override
    public Void visitNewArray(NewArrayTree tree, Void none) {
        if (around(Tree.Kind.METHOD) != null && !isInConstructor()) {
            madeElsewhere.add(tree.toString());
        }
        return super.visitNewArray(tree, none);
    }

    @Override
    public Void visitThrow(ThrowTree tree, Void none) {
        if (tree.getExpression() instanceof NewClassTree) {
            NewClassTree made = (NewClassTree) tree.getExpression();
            thrown.add(made.getIdentifier().toString());
            boolean written = made.getArguments().stream().allMatch(LiteralTree.class::isInstance);
            if (!written || made.getArguments().size() > 1) {
                thrownOtherwise.add(tree.toString());
            }
        } else {
            thrownOtherwise.add(tree.toString());
        }
        if (isInConstructor()) {
            thrownInConstructors.add(tree.toString());
        }
        return super.visitThrow(tree, none);
    }

    @Override
    public Void visitForLoop(ForLoopTree tree, Void none) {
        loop(tree.getUpdate().isEmpty() ? null : tree.getCondition(), tree);
        return super.visitForLoop(tree, none);
    }

    @Override
    public Void visitWhileLoop(WhileLoopTree tree, Void none) {
        loop(tree.getCondition(), tree);
        return super.visitWhileLoop(tree, none);
    }

    @Override
    public Void visitDoWhileLoop(DoWhileLoopTree tree, Void none) {
        loop(tree.getCondition(), tree);
        return super.visitDoWhileLoop(tree, none);
    }

    @Override
    public Void visitBinary(BinaryTree tree, Void none) {
        if (tree.getKind() == Tree.Kind.PLUS && isText(getCurrentPath())) {
            joined.add(tree.toString());
        }
        return super.visitBinary(tree, none);
    }

    @Override
    public Void visitAssignment(AssignmentTree tree, Void none) {
        assigned(tree.getVariable());
        return super.visitAssignment(tree, none);
    }

    @Override
    public Void visitCompoundAssignment(CompoundAssignmentTree tree, Void none) {
        assigned(tree.getVariable());
        if (isText(getCurrentPath())) {
            joined.add(tree.toString());
        }
        return super.visitCompoundAssignment(tree, none);
    }

    @Override
    public Void visitUnary(UnaryTree tree, Void none) {
        assigned(tree.getExpression());
        return super.visitUnary(tree, none);
    }

    private void loop(ExpressionTree condition, Tree tree) {
        loops++;
        if (condition == null || condition.toString().matches("\\(?true\\)?")) {
            endlessLoops.add(tree.toString());
        }
    }

    private void assigned(ExpressionTree target) {
        if (target instanceof ArrayAccessTree) {
            ExpressionTree array = ((ArrayAccessTree) target).getExpression();
            Element field = trees.getElement(new TreePath(getCurrentPath(), array));
            if (field != null && field.getModifiers().contains(Modifier.STATIC)) {
                staticsAssigned.add(target.toString());
            }
        }
    }

    /** A constant, or an array whose elements all stand in its initialiser. */
    private boolean isWrittenOut(ExpressionTree initializer, Element field) {
        if (initializer instanceof NewArrayTree) {
            return ((NewArrayTree) initializer).getInitializers() != null
                && field.asType().toString().matches("(int|long|char|byte)\\[\\]");
        }
        return ((VariableElement) field).getConstantValue() != null;
    }

    private boolean isText(TreePath path) {
        return "java.lang.String".equals(String.valueOf(trees.getTypeMirror(path)));
    }

    private void note(Element called) {
        TreePath caller = around(Tree.Kind.METHOD);
        if (caller != null) {
            calls.get(told(trees.getElement(caller))).add(told(called));
        }
    }

    private Element element() {
        return trees.getElement(getCurrentPath());
    }

    private boolean isOwn(Element called) {
        return told(called).startsWith("SpongeDesk");
    }

    private boolean isInConstructor() {
        TreePath method = around(Tree.Kind.METHOD);
        return method != null && trees.getElement(method).getKind() == ElementKind.CONSTRUCTOR;
    }

    private TreePath around(Tree.Kind kind) {
        TreePath path = getCurrentPath().getParentPath();
        while (path != null && path.getLeaf().getKind() != kind) {
            path = path.getParentPath();
        }
        return path;
    }

    private int line(long position) {
        return (int) unit.getLineMap().getLineNumber(position);
    }

    private static String told(Element method) {
        return ((TypeElement) method.getEnclosingElement()).getQualifiedName() + "." + method;
    }
}
