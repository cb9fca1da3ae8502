import com.sun.source.tree.AssertTree;
import com.sun.source.tree.BinaryTree;
import com.sun.source.tree.BlockTree;
import com.sun.source.tree.ClassTree;
import com.sun.source.tree.CompilationUnitTree;
import com.sun.source.tree.CompoundAssignmentTree;
import com.sun.source.tree.ExpressionTree;
import com.sun.source.tree.ForLoopTree;
import com.sun.source.tree.DoWhileLoopTree;
import com.sun.source.tree.ImportTree;
import com.sun.source.tree.LambdaExpressionTree;
import com.sun.source.tree.LiteralTree;
import com.sun.source.tree.MemberReferenceTree;
import com.sun.source.tree.MemberSelectTree;
import com.sun.source.tree.MethodInvocationTree;
import com.sun.source.tree.MethodTree;
import com.sun.source.tree.NewClassTree;
import com.sun.source.tree.SynchronizedTree;
import com.sun.source.tree.ThrowTree;
import com.sun.source.tree.Tree;
import com.sun.source.tree.TryTree;
import com.sun.source.tree.TypeCastTree;
import com.sun.source.tree.VariableTree;
import com.sun.source.tree.WhileLoopTree;
import com.sun.source.util.JavacTask;
import com.sun.source.util.TreePath;
import com.sun.source.util.TreePathScanner;
import com.sun.source.util.Trees;
import java.io.File;
import java.io.IOException;
import java.util.ArrayList;
import java.util.HashMap;
import java.util.List;
import java.util.Map;
import java.util.Set;
import java.util.TreeMap;
import java.util.TreeSet;
import javax.lang.model.element.Element;
import javax.lang.model.element.ElementKind;
import javax.lang.model.element.ExecutableElement;
import javax.lang.model.element.Modifier;
import javax.lang.model.type.ArrayType;
import javax.lang.model.type.DeclaredType;
import javax.lang.model.type.TypeKind;
import javax.lang.model.type.TypeMirror;
import javax.tools.JavaCompiler;
import javax.tools.StandardJavaFileManager;
import javax.tools.ToolProvider;

/** A source file as javac reads it: what in it a rule of LANGUAGE.md refuses, and which method calls which. */
final class Source extends TreePathScanner<Void, Void> {
    private static final String OWN = "FireNet";
    private static final Map<String, Set<String>> LIBRARY = Map.of(
            "java.lang.String", Set.of("length", "charAt", "isEmpty", "equals", "indexOf", "substring", "toCharArray"),
            "java.lang.StringBuilder", Set.of("<init>", "append", "charAt", "setCharAt", "setLength", "deleteCharAt",
                    "reverse", "length", "toString"),
            "java.util.ArrayList", Set.of("<init>", "add", "get", "set", "remove", "size", "isEmpty", "clear"),
            "java.util.List", Set.of("add", "get", "set", "remove", "size", "isEmpty", "clear", "of"),
            "java.lang.System", Set.of("arraycopy"),
            "java.util.Arrays", Set.of("copyOf", "copyOfRange", "fill"),
            "java.lang.Object", Set.of("<init>"),
            "Array", Set.of("clone"));
    private static final Set<String> NUMBERS = Set.of("java.lang.Integer", "java.lang.Long", "java.lang.Math");
    private static final Set<String> CLASSES = Set.of("java.lang.String", "java.lang.StringBuilder",
            "java.lang.Integer", "java.util.ArrayList", "java.util.List");
    private static final Set<String> IMPORTS = Set.of("java.util.ArrayList", "java.util.List", "java.util.Arrays",
            "java.util.Iterator", "java.util.NoSuchElementException");
    private static final Set<String> THROWN = Set.of("IllegalStateException", "IllegalArgumentException",
            "IndexOutOfBoundsException", "ArithmeticException", "UnsupportedOperationException",
            "NoSuchElementException", "RuntimeException");

    /** The calls of each method, in the library and in the file itself. */
    final Map<String, Set<String>> calls = new TreeMap<>();
    private final Map<Integer, List<String>> refused = new HashMap<>();
    private final Trees trees;
    private final CompilationUnitTree unit;
    private String method = "";

    private Source(Trees trees, CompilationUnitTree unit) {
        this.trees = trees;
        this.unit = unit;
    }

    static Source read(File file) {
        JavaCompiler compiler = ToolProvider.getSystemJavaCompiler();
        try (StandardJavaFileManager files = compiler.getStandardFileManager(null, null, null)) {
            List<String> options = List.of("-proc:none");
            JavacTask task = (JavacTask) compiler.getTask(null, files, null, options, null,
                    files.getJavaFileObjects(file));
            CompilationUnitTree unit = task.parse().iterator().next();
            task.analyze();
            Source source = new Source(Trees.instance(task), unit);
            source.scan(new TreePath(unit), null);
            return source;
        } catch (IOException e) {
            throw new IllegalStateException(e);
        }
    }

    /** What the rule refuses, each with its line. */
    List<String> refusedBy(int rule) {
        return refused.getOrDefault(rule, List.of());
    }

    private void refuse(int rule, Tree what, String why) {
        long line = unit.getLineMap().getLineNumber(trees.getSourcePositions().getStartPosition(unit, what));
        refused.computeIfAbsent(rule, k -> new ArrayList<>()).add("line " + line + ": " + why);
    }

    private Element element(Tree tree) {
        return trees.getElement(new TreePath(getCurrentPath(), tree));
    }

    private TypeMirror type(Tree tree) {
        return trees.getTypeMirror(new TreePath(getCurrentPath(), tree));
    }

    private static String classOf(Element member) {
        return member.getEnclosingElement().toString();
    }

    private static boolean isOwn(String name) {
        return name.equals(OWN) || name.startsWith(OWN + ".");
    }

    // ---- classes, methods and variables

    @Override
    public Void visitCompilationUnit(CompilationUnitTree tree, Void none) {
        if (tree.getPackage() != null || tree.getTypeDecls().size() != 1) {
            refuse(1, tree, "a package line, or not just one class");
        }
        return super.visitCompilationUnit(tree, none);
    }

    @Override
    public Void visitImport(ImportTree tree, Void none) {
        String name = tree.getQualifiedIdentifier().toString();
        if (tree.isStatic() || !IMPORTS.contains(name)) {
            refuse(4, tree, "import of " + name);
        }
        return null;
    }

    @Override
    public Void visitClass(ClassTree tree, Void none) {
        Tree around = getCurrentPath().getParentPath().getLeaf();
        boolean member = around instanceof ClassTree || around instanceof CompilationUnitTree;
        if (!member && tree.getSimpleName().length() > 0) {
            refuse(2, tree, "the local class " + tree.getSimpleName());
        }
        String methodAround = method;
        method = trees.getElement(getCurrentPath()) + ".<init>";
        super.visitClass(tree, none);
        method = methodAround;
        return null;
    }

    @Override
    public Void visitMethod(MethodTree tree, Void none) {
        ExecutableElement made = (ExecutableElement) trees.getElement(getCurrentPath());
        String methodAround = method;
        method = signature(made);
        calls.computeIfAbsent(method, k -> new TreeSet<>());
        requireShort(tree);
        if (tree.getParameters().size() > 7) {
            refuse(11, tree, "more than seven parameters");
        }
        if (tree.getReturnType() != null && !isAllowed(type(tree.getReturnType()))) {
            refuse(3, tree, "the type " + tree.getReturnType());
        }
        super.visitMethod(tree, none);
        method = methodAround;
        return null;
    }

    /** All constructors of a class count as one method, with what its fields are made with. */
    private static String signature(ExecutableElement made) {
        boolean constructor = made.getKind() == ElementKind.CONSTRUCTOR;
        return classOf(made) + "." + (constructor ? "<init>" : made.toString());
    }

    private void requireShort(MethodTree tree) {
        long first = trees.getSourcePositions().getStartPosition(unit, tree);
        long last = trees.getSourcePositions().getEndPosition(unit, tree);
        if (last >= 0 && unit.getLineMap().getLineNumber(last) - unit.getLineMap().getLineNumber(first) >= 60) {
            refuse(11, tree, "more than sixty lines");
        }
    }

    @Override
    public Void visitBlock(BlockTree tree, Void none) {
        if (tree.isStatic()) {
            refuse(5, tree, "a static initialiser block");
        }
        return super.visitBlock(tree, none);
    }

    @Override
    public Void visitVariable(VariableTree tree, Void none) {
        Element made = trees.getElement(getCurrentPath());
        if (!isAllowed(made.asType())) {
            refuse(3, tree, "the type " + made.asType());
        }
        if (made.getModifiers().contains(Modifier.STATIC)) {
            requireConstant(tree, made);
        }
        return super.visitVariable(tree, none);
    }

    private void requireConstant(VariableTree tree, Element made) {
        TypeMirror kept = made.asType();
        boolean text = kept.toString().equals("java.lang.String");
        boolean row = kept.getKind() == TypeKind.ARRAY && tree.getInitializer().getKind() == Tree.Kind.NEW_ARRAY;
        if (!made.getModifiers().contains(Modifier.FINAL) || !text && !row && !kept.getKind().isPrimitive()) {
            refuse(5, tree, "the static field " + tree.getName());
        }
    }

    private static boolean isAllowed(TypeMirror type) {
        switch (type.getKind()) {
            case ARRAY:
                TypeMirror part = ((ArrayType) type).getComponentType();
                boolean twice = part.getKind() == TypeKind.ARRAY;
                TypeMirror last = twice ? ((ArrayType) part).getComponentType() : part;
                return last.getKind().isPrimitive() || !twice && isOwn(last.toString());
            case DECLARED:
                String name = ((DeclaredType) type).asElement().toString();
                boolean allowed = isOwn(name) || CLASSES.contains(name);
                for (TypeMirror of : ((DeclaredType) type).getTypeArguments()) {
                    allowed &= isOwn(of.toString()) || of.toString().equals("java.lang.Integer");
                }
                return allowed;
            default:
                return type.getKind().isPrimitive() || type.getKind() == TypeKind.VOID
                        || type.getKind() == TypeKind.TYPEVAR;
        }
    }

    // ---- calls

    @Override
    public Void visitMethodInvocation(MethodInvocationTree tree, Void none) {
        called(tree, (ExecutableElement) element(tree));
        return super.visitMethodInvocation(tree, none);
    }

    @Override
    public Void visitNewClass(NewClassTree tree, Void none) {
        Tree around = getCurrentPath().getParentPath().getLeaf();
        if (!(around instanceof ThrowTree)) {
            called(tree, (ExecutableElement) element(tree));
        }
        return super.visitNewClass(tree, none);
    }

    private void called(Tree tree, ExecutableElement to) {
        String name = to.getSimpleName().toString();
        String of = classOf(to);
        boolean implicit = of.equals("java.lang.Object") && name.equals("<init>");
        if (!implicit) {
            calls.computeIfAbsent(method, k -> new TreeSet<>()).add(signature(to));
        }
        if (!isOwn(of) && !isOfLibrary(of, name, to)) {
            refuse(4, tree, of + "." + to);
        }
    }

    private static boolean isOfLibrary(String of, String name, ExecutableElement to) {
        if (NUMBERS.contains(of)) {
            boolean whole = !name.endsWith("Exact") && to.getModifiers().contains(Modifier.STATIC);
            for (Element parameter : to.getParameters()) {
                whole &= Set.of("int", "long").contains(parameter.asType().toString());
            }
            return whole;
        }
        if (name.equals("<init>") && of.equals("java.util.ArrayList")) {
            return to.getParameters().isEmpty();
        }
        if (name.equals("remove")) {
            return to.toString().equals("remove(int)");
        }
        return LIBRARY.getOrDefault(of, Set.of()).contains(name);
    }

    @Override
    public Void visitMemberSelect(MemberSelectTree tree, Void none) {
        Element meant = trees.getElement(getCurrentPath());
        if (meant != null && meant.getKind() == ElementKind.FIELD && classOf(meant).startsWith("java")) {
            refuse(4, tree, classOf(meant) + "." + meant);
        }
        return super.visitMemberSelect(tree, none);
    }

    // ---- statements and expressions

    @Override
    public Void visitThrow(ThrowTree tree, Void none) {
        if (!(tree.getExpression() instanceof NewClassTree)) {
            refuse(6, tree, "not a new exception");
            return super.visitThrow(tree, none);
        }
        NewClassTree made = (NewClassTree) tree.getExpression();
        boolean plain = made.getClassBody() == null && made.getArguments().size() <= 1;
        for (ExpressionTree text : made.getArguments()) {
            plain &= text instanceof LiteralTree && text.getKind() == Tree.Kind.STRING_LITERAL;
        }
        if (!plain || !THROWN.contains(made.getIdentifier().toString())) {
            refuse(6, tree, "throw " + made);
        }
        if (method.endsWith(".<init>")) {
            refuse(6, tree, "throw in a constructor");
        }
        return super.visitThrow(tree, none);
    }

    /** The rule allows some of these; FireNet needs none, and is not to answer for what the machine throws. */
    @Override
    public Void visitTry(TryTree tree, Void none) {
        refuse(6, tree, "try");
        return super.visitTry(tree, none);
    }

    @Override
    public Void visitSynchronized(SynchronizedTree tree, Void none) {
        refuse(6, tree, "synchronized");
        return super.visitSynchronized(tree, none);
    }

    @Override
    public Void visitAssert(AssertTree tree, Void none) {
        refuse(6, tree, "assert");
        return super.visitAssert(tree, none);
    }

    /** Those among own classes are allowed behind a test; FireNet needs none. */
    @Override
    public Void visitTypeCast(TypeCastTree tree, Void none) {
        if (!type(tree.getType()).getKind().isPrimitive()) {
            refuse(6, tree, "a cast to " + tree.getType());
        }
        return super.visitTypeCast(tree, none);
    }

    @Override
    public Void visitLambdaExpression(LambdaExpressionTree tree, Void none) {
        refuse(2, tree, "a lambda");
        return super.visitLambdaExpression(tree, none);
    }

    @Override
    public Void visitMemberReference(MemberReferenceTree tree, Void none) {
        refuse(2, tree, "a method reference");
        return super.visitMemberReference(tree, none);
    }

    @Override
    public Void visitForLoop(ForLoopTree tree, Void none) {
        requireEnd(tree, tree.getCondition());
        return super.visitForLoop(tree, none);
    }

    @Override
    public Void visitWhileLoop(WhileLoopTree tree, Void none) {
        requireEnd(tree, tree.getCondition());
        return super.visitWhileLoop(tree, none);
    }

    @Override
    public Void visitDoWhileLoop(DoWhileLoopTree tree, Void none) {
        requireEnd(tree, tree.getCondition());
        return super.visitDoWhileLoop(tree, none);
    }

    private void requireEnd(Tree loop, ExpressionTree condition) {
        if (condition == null || condition.toString().replaceAll("[()]", "").equals("true")) {
            refuse(9, loop, "a loop without an end of its own");
        }
    }

    private boolean isOfClass(Tree tree, String... names) {
        TypeMirror type = type(tree);
        return type != null && List.of(names).contains(type.toString());
    }

    @Override
    public Void visitBinary(BinaryTree tree, Void none) {
        if (trees.getTypeMirror(getCurrentPath()).toString().equals("java.lang.String")) {
            refuse(10, tree, "texts joined by +");
        }
        boolean sameness = tree.getKind() == Tree.Kind.EQUAL_TO || tree.getKind() == Tree.Kind.NOT_EQUAL_TO;
        String[] texts = {"java.lang.String", "java.lang.Integer"};
        if (sameness && (isOfClass(tree.getLeftOperand(), texts) || isOfClass(tree.getRightOperand(), texts))) {
            refuse(6, tree, "sameness of two texts or Integers");
        }
        return super.visitBinary(tree, none);
    }

    @Override
    public Void visitCompoundAssignment(CompoundAssignmentTree tree, Void none) {
        if (isOfClass(tree.getVariable(), "java.lang.String")) {
            refuse(10, tree, "texts joined by +=");
        }
        return super.visitCompoundAssignment(tree, none);
    }
}
