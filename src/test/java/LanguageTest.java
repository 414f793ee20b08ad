import com.sun.source.tree.ArrayAccessTree;
import com.sun.source.tree.AssignmentTree;
import com.sun.source.tree.BinaryTree;
import com.sun.source.tree.BlockTree;
import com.sun.source.tree.ClassTree;
import com.sun.source.tree.CompilationUnitTree;
import com.sun.source.tree.CompoundAssignmentTree;
import com.sun.source.tree.DoWhileLoopTree;
import com.sun.source.tree.EnhancedForLoopTree;
import com.sun.source.tree.ExpressionTree;
import com.sun.source.tree.ForLoopTree;
import com.sun.source.tree.LambdaExpressionTree;
import com.sun.source.tree.LiteralTree;
import com.sun.source.tree.MemberReferenceTree;
import com.sun.source.tree.MethodInvocationTree;
import com.sun.source.tree.MethodTree;
import com.sun.source.tree.NewArrayTree;
import com.sun.source.tree.NewClassTree;
import com.sun.source.tree.ThrowTree;
import com.sun.source.tree.Tree;
import com.sun.source.tree.TryTree;
import com.sun.source.tree.TypeCastTree;
import com.sun.source.tree.UnaryTree;
import com.sun.source.tree.VariableTree;
import com.sun.source.tree.WhileLoopTree;
import com.sun.source.util.JavacTask;
import com.sun.source.util.SourcePositions;
import com.sun.source.util.TreePath;
import com.sun.source.util.TreePathScanner;
import com.sun.source.util.Trees;
import java.nio.file.Path;
import java.util.HashMap;
import java.util.LinkedHashSet;
import java.util.List;
import java.util.Map;
import java.util.Set;
import javax.lang.model.element.Element;
import javax.lang.model.element.ElementKind;
import javax.lang.model.element.Modifier;
import javax.lang.model.type.ArrayType;
import javax.lang.model.type.TypeKind;
import javax.lang.model.type.TypeMirror;
import javax.tools.JavaCompiler;
import javax.tools.StandardJavaFileManager;
import javax.tools.ToolProvider;

/**
 * Rules 2 to 12 of LANGUAGE.md, as far as javac's tree of the program shows them. Where the program
 * uses less than a rule leaves, the test asks for that less: it is to be widened with the program.
 */
public final class LanguageTest extends TreePathScanner<Void, Void> {
    private static final int MOST_PARAMETERS = 7;
    private static final int MOST_LINES = 60;
    private static final int MOST_DEPTH = 8;
    private static final int MOST_CLASSES = 12;
    private static final int MOST_FIELDS = 20;
    private static final Set<String> EXCEPTIONS = Set.of(
            "IllegalStateException", "IllegalArgumentException", "IndexOutOfBoundsException",
            "ArithmeticException", "UnsupportedOperationException", "NoSuchElementException",
            "RuntimeException");
    private static final Set<String> LIBRARY = Set.of("java.lang.Math", "java.lang.Integer", "java.lang.Long");
    private static final Check CHECK = new Check("LanguageTest");

    private final Trees trees;
    private final CompilationUnitTree unit;
    private final Map<Element, Set<Element>> calls = new HashMap<>();
    private final Set<Element> own = new LinkedHashSet<>();
    private Element method;
    private boolean inConstructor;
    private int classes;

    private LanguageTest(Trees trees, CompilationUnitTree unit) {
        this.trees = trees;
        this.unit = unit;
    }

    public static void main(String[] args) throws Exception {
        JavaCompiler compiler = ToolProvider.getSystemJavaCompiler();
        try (StandardJavaFileManager files = compiler.getStandardFileManager(null, null, null)) {
            JavacTask task = (JavacTask) compiler.getTask(null, files, null, List.of("-proc:none"), null,
                    files.getJavaFileObjects(Path.of(args[0])));
            CompilationUnitTree unit = task.parse().iterator().next();
            task.analyze();
            new LanguageTest(Trees.instance(task), unit).run();
        }
        CHECK.end();
    }

    private void run() {
        none("a package", unit.getPackage() != null, unit);
        CHECK.due("rule 4: imports", unit.getImports().size(), 0);
        CHECK.due("rule 2: classes beside one another", unit.getTypeDecls().size(), 1);
        scan(new TreePath(unit), null);
        CHECK.due("rule 11: classes above " + MOST_CLASSES, Math.max(classes, MOST_CLASSES), MOST_CLASSES);
        for (Element start : own) {
            String path = longest(start, new LinkedHashSet<>());
            int depth = path.split(" > ").length;
            CHECK.dueText("rule 11: the calls " + path, depth > MOST_DEPTH ? depth + " deep" : "", "");
        }
    }

    /** The longest run of calls that begins with this one, the library's own ones with it. */
    private String longest(Element start, Set<Element> open) {
        if (!open.add(start)) {
            CHECK.dueText("rule 8: recursion of " + start, "there is one", "none");
            return start.getSimpleName().toString();
        }
        String best = "";
        for (Element next : calls.getOrDefault(start, Set.of())) {
            String path = " > " + longest(next, open);
            if (path.split(" > ").length > best.split(" > ").length) {
                best = path;
            }
        }
        open.remove(start);
        return start.getEnclosingElement().getSimpleName() + "." + start.getSimpleName() + best;
    }

    private String place(Tree tree) {
        SourcePositions at = trees.getSourcePositions();
        return " in line " + unit.getLineMap().getLineNumber(at.getStartPosition(unit, tree));
    }

    private void none(String what, boolean found, Tree tree) {
        CHECK.dueText("rules: " + what + place(tree), found ? "found" : "none", "none");
    }

    private Element element(Tree tree) {
        return trees.getElement(TreePath.getPath(unit, tree));
    }

    @Override
    public Void visitClass(ClassTree tree, Void nothing) {
        classes++;
        int fields = 0;
        for (Tree member : tree.getMembers()) {
            none("rule 5, a block of a class", member instanceof BlockTree, member);
            if (member instanceof VariableTree field) {
                boolean fixed = field.getModifiers().getFlags().contains(Modifier.STATIC);
                fields += fixed ? 0 : 1;
                if (fixed) {
                    constant(field);
                }
            }
        }
        CHECK.due("rule 11: fields above " + MOST_FIELDS + place(tree), Math.max(fields, MOST_FIELDS),
                MOST_FIELDS);
        none("rule 2, an anonymous or local class", tree.getSimpleName().length() == 0
                || element(tree).getEnclosingElement().getKind() == ElementKind.METHOD, tree);
        if (element(tree).getEnclosingElement().getKind().isClass()) {
            Set<Modifier> flags = tree.getModifiers().getFlags();
            none("rule 2, a class inside that is not static", !flags.contains(Modifier.STATIC), tree);
            none("rule 1, a class inside that is public or protected",
                    flags.contains(Modifier.PUBLIC) || flags.contains(Modifier.PROTECTED), tree);
        }
        return super.visitClass(tree, nothing);
    }

    private void constant(VariableTree field) {
        none("rule 5, a static field that is not final",
                !field.getModifiers().getFlags().contains(Modifier.FINAL), field);
        boolean array = element(field).asType().getKind() == TypeKind.ARRAY;
        ExpressionTree value = field.getInitializer();
        none("rule 5, a static array that is not written out", array
                && !(value instanceof NewArrayTree made && made.getInitializers() != null), field);
        none("rule 5, an object in a static field", value instanceof NewClassTree, field);
    }

    @Override
    public Void visitMethod(MethodTree tree, Void nothing) {
        method = element(tree);
        inConstructor = method.getKind() == ElementKind.CONSTRUCTOR;
        own.add(method);
        CHECK.due("rule 11: parameters above " + MOST_PARAMETERS + place(tree),
                Math.max(tree.getParameters().size(), MOST_PARAMETERS), MOST_PARAMETERS);
        SourcePositions at = trees.getSourcePositions();
        // A constructor that is not written out has no lines of its own.
        if (at.getEndPosition(unit, tree) >= 0) {
            long lines = unit.getLineMap().getLineNumber(at.getEndPosition(unit, tree))
                    - unit.getLineMap().getLineNumber(at.getStartPosition(unit, tree)) + 1;
            CHECK.due("rule 11: lines above " + MOST_LINES + place(tree), Math.max(lines, MOST_LINES), MOST_LINES);
        }
        super.visitMethod(tree, nothing);
        method = null;
        inConstructor = false;
        return null;
    }

    private void called(Tree tree) {
        if (method != null) {
            calls.computeIfAbsent(method, key -> new LinkedHashSet<>()).add(element(tree));
        }
    }

    @Override
    public Void visitMethodInvocation(MethodInvocationTree tree, Void nothing) {
        Element target = element(tree);
        Element owner = target.getEnclosingElement();
        boolean ours = owner.toString().startsWith("DecimalWords");
        boolean listed = LIBRARY.contains(owner.toString())
                && !target.getSimpleName().toString().endsWith("Exact");
        boolean base = target.getKind() == ElementKind.CONSTRUCTOR;
        none("rule 4, a call of " + owner + "." + target, !ours && !listed && !base, tree);
        if (!base) {
            called(tree);
        }
        return super.visitMethodInvocation(tree, nothing);
    }

    @Override
    public Void visitNewClass(NewClassTree tree, Void nothing) {
        called(tree);
        boolean thrown = getCurrentPath().getParentPath().getLeaf() instanceof ThrowTree;
        none("rule 12, an object made outside a constructor", !thrown && !inConstructor, tree);
        return super.visitNewClass(tree, nothing);
    }

    @Override
    public Void visitNewArray(NewArrayTree tree, Void nothing) {
        none("rule 12, an array made outside a constructor", method != null && !inConstructor, tree);
        return super.visitNewArray(tree, nothing);
    }

    @Override
    public Void visitThrow(ThrowTree tree, Void nothing) {
        none("rule 6, a throw in a constructor", inConstructor, tree);
        boolean plain = false;
        if (tree.getExpression() instanceof NewClassTree made) {
            List<? extends ExpressionTree> given = made.getArguments();
            plain = EXCEPTIONS.contains(made.getIdentifier().toString())
                    && (given.isEmpty() || given.size() == 1 && given.get(0) instanceof LiteralTree);
        }
        none("rule 6, another throw than of a new exception with a written text", !plain, tree);
        return super.visitThrow(tree, nothing);
    }

    @Override
    public Void visitTry(TryTree tree, Void nothing) {
        none("rule 6, a try", true, tree);
        return super.visitTry(tree, nothing);
    }

    @Override
    public Void visitLambdaExpression(LambdaExpressionTree tree, Void nothing) {
        none("rule 2, a lambda", true, tree);
        return super.visitLambdaExpression(tree, nothing);
    }

    @Override
    public Void visitMemberReference(MemberReferenceTree tree, Void nothing) {
        none("rule 2, a method reference", true, tree);
        return super.visitMemberReference(tree, nothing);
    }

    @Override
    public Void visitVariable(VariableTree tree, Void nothing) {
        none("rule 3, a type of " + tree.getName(), !allowed(element(tree).asType()), tree);
        return super.visitVariable(tree, nothing);
    }

    private static boolean allowed(TypeMirror type) {
        switch (type.getKind()) {
            case INT:
            case LONG:
            case BOOLEAN:
                return true;
            case ARRAY:
                TypeMirror part = ((ArrayType) type).getComponentType();
                return part.getKind() != TypeKind.ARRAY && allowed(part);
            case DECLARED:
                return type.toString().startsWith("DecimalWords");
            default:
                return false;
        }
    }

    @Override
    public Void visitTypeCast(TypeCastTree tree, Void nothing) {
        none("rule 6, a cast that is not of numbers", !typeOf(tree).getKind().isPrimitive(), tree);
        return super.visitTypeCast(tree, nothing);
    }

    private TypeMirror typeOf(Tree tree) {
        return trees.getTypeMirror(TreePath.getPath(unit, tree));
    }

    @Override
    public Void visitBinary(BinaryTree tree, Void nothing) {
        none("rule 10, texts joined by +", !typeOf(tree).getKind().isPrimitive(), tree);
        return super.visitBinary(tree, nothing);
    }

    @Override
    public Void visitForLoop(ForLoopTree tree, Void nothing) {
        none("rule 9, a loop without a counter and a bound", tree.getCondition() == null
                || tree.getUpdate().size() != 1 || tree.getInitializer().size() != 1, tree);
        return super.visitForLoop(tree, nothing);
    }

    @Override
    public Void visitWhileLoop(WhileLoopTree tree, Void nothing) {
        none("rule 9, a while loop", true, tree);
        return super.visitWhileLoop(tree, nothing);
    }

    @Override
    public Void visitDoWhileLoop(DoWhileLoopTree tree, Void nothing) {
        none("rule 9, a do loop", true, tree);
        return super.visitDoWhileLoop(tree, nothing);
    }

    @Override
    public Void visitEnhancedForLoop(EnhancedForLoopTree tree, Void nothing) {
        none("rule 12, an iterator", typeOf(tree.getExpression()).getKind() != TypeKind.ARRAY, tree);
        return super.visitEnhancedForLoop(tree, nothing);
    }

    @Override
    public Void visitAssignment(AssignmentTree tree, Void nothing) {
        written(tree.getVariable());
        return super.visitAssignment(tree, nothing);
    }

    @Override
    public Void visitCompoundAssignment(CompoundAssignmentTree tree, Void nothing) {
        written(tree.getVariable());
        return super.visitCompoundAssignment(tree, nothing);
    }

    @Override
    public Void visitUnary(UnaryTree tree, Void nothing) {
        if (tree.getKind() != Tree.Kind.UNARY_MINUS && tree.getKind() != Tree.Kind.LOGICAL_COMPLEMENT) {
            written(tree.getExpression());
        }
        return super.visitUnary(tree, nothing);
    }

    private void written(ExpressionTree target) {
        if (target instanceof ArrayAccessTree access) {
            Element array = element(access.getExpression());
            none("rule 5, a static array that is changed",
                    array == null || array.getModifiers().contains(Modifier.STATIC), target);
        }
    }
}
