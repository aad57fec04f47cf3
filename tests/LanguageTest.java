import com.sun.source.tree.ArrayAccessTree;
import com.sun.source.tree.AssertTree;
import com.sun.source.tree.AssignmentTree;
import com.sun.source.tree.BinaryTree;
import com.sun.source.tree.BlockTree;
import com.sun.source.tree.ClassTree;
import com.sun.source.tree.CompilationUnitTree;
import com.sun.source.tree.CompoundAssignmentTree;
import com.sun.source.tree.DoWhileLoopTree;
import com.sun.source.tree.EnhancedForLoopTree;
import com.sun.source.tree.ExpressionTree;
import com.sun.source.tree.ForLoopTree;
import com.sun.source.tree.IdentifierTree;
import com.sun.source.tree.ImportTree;
import com.sun.source.tree.InstanceOfTree;
import com.sun.source.tree.LambdaExpressionTree;
import com.sun.source.tree.LineMap;
import com.sun.source.tree.LiteralTree;
import com.sun.source.tree.MemberReferenceTree;
import com.sun.source.tree.MethodInvocationTree;
import com.sun.source.tree.MethodTree;
import com.sun.source.tree.NewArrayTree;
import com.sun.source.tree.NewClassTree;
import com.sun.source.tree.SynchronizedTree;
import com.sun.source.tree.ThrowTree;
import com.sun.source.tree.Tree;
import com.sun.source.tree.TryTree;
import com.sun.source.tree.TypeCastTree;
import com.sun.source.tree.UnaryTree;
import com.sun.source.tree.VariableTree;
import com.sun.source.tree.WhileLoopTree;
import com.sun.source.util.JavacTask;
import com.sun.source.util.SourcePositions;
import com.sun.source.util.TreePath;
import com.sun.source.util.TreePathScanner;
import com.sun.source.util.Trees;
import java.io.IOException;
import java.nio.file.Files;
import java.nio.file.Path;
import java.util.ArrayList;
import java.util.HashMap;
import java.util.HashSet;
import java.util.LinkedHashSet;
import java.util.List;
import java.util.Map;
import java.util.Set;
import javax.lang.model.element.Element;
import javax.lang.model.element.ElementKind;
import javax.lang.model.element.ExecutableElement;
import javax.lang.model.element.Modifier;
import javax.lang.model.element.TypeElement;
import javax.lang.model.type.TypeKind;
import javax.lang.model.type.TypeMirror;
import javax.tools.JavaCompiler;
import javax.tools.StandardJavaFileManager;
import javax.tools.ToolProvider;

/** The rules of LANGUAGE.md that can be seen from the program as the compiler reads it, rule by rule. */
public final class LanguageTest extends TreePathScanner<Void, Void> {
    private static final Path SOURCE = Path.of("src/main/java/StillTown.java");
    /** What the program may use of the library; the document allows more. */
    private static final Set<String> LIBRARY = Set.of("java.lang.Math.max", "java.lang.Math.min", "java.lang.Long.bitCount",
        "java.lang.Integer.bitCount", "java.lang.System.arraycopy", "java.util.Arrays.fill", "java.lang.String.length",
        "java.lang.String.charAt");

    private final Trees trees;
    private final SourcePositions places;
    private final CompilationUnitTree unit;
    private final LineMap lines;
    private final Map<ExecutableElement, Set<ExecutableElement>> calls = new HashMap<>();
    private final Map<ExecutableElement, Integer> depths = new HashMap<>();
    private int classes = 0;

    private LanguageTest(Trees trees, CompilationUnitTree unit) {
        this.trees = trees;
        this.places = trees.getSourcePositions();
        this.unit = unit;
        this.lines = unit.getLineMap();
    }

    private void rule(int number, String what, Tree tree, boolean kept) {
        long line = lines.getLineNumber(places.getStartPosition(unit, tree));
        Check.due("rule " + number + ", line " + line + ": " + what, kept, true);
    }

    private Element element(Tree tree) {
        return trees.getElement(trees.getPath(unit, tree));
    }

    private TypeMirror type(Tree tree) {
        return trees.getTypeMirror(trees.getPath(unit, tree));
    }

    private static boolean isNumber(TypeMirror type) {
        return type.getKind().isPrimitive();
    }

    /** A class of the program itself. */
    private static boolean isOwn(Element element) {
        for (Element e = element; e != null; e = e.getEnclosingElement()) {
            if (e.toString().equals("StillTown")) {
                return true;
            }
        }
        return false;
    }

    /** Rule 3: int .. double, own classes, String, arrays of these. */
    private boolean isPlain(TypeMirror type, int dimensions) {
        if (type.getKind() == TypeKind.ARRAY) {
            TypeMirror part = ((javax.lang.model.type.ArrayType) type).getComponentType();
            boolean ofNumbers = part.getKind() != TypeKind.ARRAY || isNumber(((javax.lang.model.type.ArrayType) part).getComponentType());
            return dimensions < 2 && ofNumbers && isPlain(part, dimensions + 1);
        }
        if (type.getKind() == TypeKind.DECLARED) {
            return type.toString().equals("java.lang.String") || isOwn(((javax.lang.model.type.DeclaredType) type).asElement());
        }
        return isNumber(type) || type.getKind() == TypeKind.VOID || type.getKind() == TypeKind.NULL;
    }

    @Override
    public Void visitImport(ImportTree tree, Void none) {
        rule(4, "an import of " + tree.getQualifiedIdentifier(), tree, tree.getQualifiedIdentifier().toString().equals("java.util.Arrays"));
        return null;
    }

    @Override
    public Void visitClass(ClassTree tree, Void none) {
        classes++;
        TypeElement made = (TypeElement) element(tree);
        boolean isFace = made.getQualifiedName().contentEquals("StillTown");
        Set<Modifier> modifiers = tree.getModifiers().getFlags();
        rule(1, "the face is public and final", tree, !isFace || modifiers.equals(Set.of(Modifier.PUBLIC, Modifier.FINAL)));
        rule(2, tree.getSimpleName() + " is a static class within", tree, isFace || modifiers.contains(Modifier.STATIC)
            && !modifiers.contains(Modifier.PUBLIC) && !modifiers.contains(Modifier.PROTECTED)
            && made.getEnclosingElement().toString().equals("StillTown"));
        int fields = 0;
        for (Tree member : tree.getMembers()) {
            if (member instanceof VariableTree && !element(member).getModifiers().contains(Modifier.STATIC)) {
                fields++;
            }
            rule(5, "a block of the class", member, !(member instanceof BlockTree));
            if (isFace && !(member instanceof ClassTree)) {
                ofTheFace(member);
            }
        }
        rule(11, "some twenty fields: " + fields + " of " + tree.getSimpleName(), tree, fields <= 20);
        return super.visitClass(tree, none);
    }

    private void ofTheFace(Tree member) {
        Element element = element(member);
        boolean isPublic = element.getModifiers().contains(Modifier.PUBLIC);
        rule(1, element + " is public or private", member, isPublic || element.getModifiers().contains(Modifier.PRIVATE));
        rule(1, element + " is no public field", member, !isPublic || !(member instanceof VariableTree) || element.toString().equals("NONE"));
    }

    @Override
    public Void visitVariable(VariableTree tree, Void none) {
        Element element = element(tree);
        rule(3, "the type of " + tree.getName(), tree, isPlain(element.asType(), 0));
        if (element.getKind() == ElementKind.FIELD && element.getModifiers().contains(Modifier.STATIC)) {
            String type = element.asType().toString();
            rule(5, tree.getName() + " is final", tree, element.getModifiers().contains(Modifier.FINAL));
            rule(5, tree.getName() + " is a constant", tree, Set.of("int", "long", "boolean", "char", "java.lang.String", "int[]", "long[]",
                "char[]", "byte[]").contains(type));
            boolean written = !type.endsWith("[]") || tree.getInitializer() instanceof NewArrayTree
                && ((NewArrayTree) tree.getInitializer()).getDimensions().isEmpty();
            rule(5, tree.getName() + " is written out", tree, written && tree.getInitializer() != null);
        }
        return super.visitVariable(tree, none);
    }

    @Override
    public Void visitMethod(MethodTree tree, Void none) {
        ExecutableElement method = (ExecutableElement) element(tree);
        calls.computeIfAbsent(method, m -> new LinkedHashSet<>());
        long from = lines.getLineNumber(places.getStartPosition(unit, tree));
        // a constructor that is not written has no end
        long end = places.getEndPosition(unit, tree);
        long length = end < 0 ? 1 : lines.getLineNumber(end) - from + 1;
        rule(11, "some sixty lines: " + length + " of " + tree.getName(), tree, length <= 60);
        rule(11, "seven parameters: " + tree.getName(), tree, tree.getParameters().size() <= 7);
        rule(3, "what " + tree.getName() + " answers", tree, isPlain(method.getReturnType(), 0));
        rule(6, "throws", tree, tree.getThrows().isEmpty());
        rule(6, "equals, hashCode, toString", tree, !Set.of("equals", "hashCode", "toString").contains(tree.getName().toString()));
        return super.visitMethod(tree, none);
    }

    /** The method in which a tree stands, or null in a field's initialiser. */
    private ExecutableElement method() {
        for (TreePath path = getCurrentPath(); path != null; path = path.getParentPath()) {
            if (path.getLeaf() instanceof MethodTree) {
                return (ExecutableElement) trees.getElement(path);
            }
        }
        return null;
    }

    @Override
    public Void visitMethodInvocation(MethodInvocationTree tree, Void none) {
        ExecutableElement called = (ExecutableElement) element(tree);
        if (isOwn(called)) {
            note(called);
        } else if (called.getKind() != ElementKind.CONSTRUCTOR) {
            String name = called.getEnclosingElement() + "." + called.getSimpleName();
            rule(4, name + " of the library", tree, LIBRARY.contains(name));
        }
        return super.visitMethodInvocation(tree, none);
    }

    private void note(ExecutableElement called) {
        ExecutableElement caller = method();
        if (caller != null) {
            calls.computeIfAbsent(caller, m -> new LinkedHashSet<>()).add(called);
        }
    }

    /** Rows are made with the object alone, so that no run of calls can fill the room. */
    private void made(Tree tree) {
        ExecutableElement method = method();
        rule(12, "made behind the constructor", tree, method == null || method.getKind() == ElementKind.CONSTRUCTOR);
        for (TreePath path = getCurrentPath(); path != null; path = path.getParentPath()) {
            Tree leaf = path.getLeaf();
            boolean loop = leaf instanceof ForLoopTree || leaf instanceof WhileLoopTree || leaf instanceof DoWhileLoopTree
                || leaf instanceof EnhancedForLoopTree;
            rule(12, "made in a loop", tree, !loop);
        }
    }

    @Override
    public Void visitNewClass(NewClassTree tree, Void none) {
        made(tree);
        note((ExecutableElement) element(tree));
        rule(2, "a class without a name", tree, tree.getClassBody() == null);
        rule(4, "an object of the library", tree, isOwn(element(tree)));
        for (ExpressionTree argument : tree.getArguments()) {
            rule(12, "this is handed out", argument, !argument.toString().equals("this"));
        }
        return super.visitNewClass(tree, none);
    }

    @Override
    public Void visitNewArray(NewArrayTree tree, Void none) {
        made(tree);
        for (ExpressionTree dimension : tree.getDimensions()) {
            // a length is a constant, above 0
            boolean constant = dimension.toString().matches("[A-Z_ *+()0-9a-zT.]+") && !dimension.toString().contains("-");
            rule(7, "the length " + dimension, dimension, constant);
        }
        return super.visitNewArray(tree, none);
    }

    @Override
    public Void visitBinary(BinaryTree tree, Void none) {
        TypeMirror left = type(tree.getLeftOperand());
        TypeMirror right = type(tree.getRightOperand());
        rule(10, "texts joined by +", tree, tree.getKind() != Tree.Kind.PLUS || isNumber(left) && isNumber(right));
        if (tree.getKind() == Tree.Kind.EQUAL_TO || tree.getKind() == Tree.Kind.NOT_EQUAL_TO) {
            String types = left + " " + right;
            rule(6, "== of " + types, tree, !types.contains("java.lang."));
        }
        if (tree.getKind() == Tree.Kind.DIVIDE || tree.getKind() == Tree.Kind.REMAINDER) {
            rule(7, "a divisor is a constant, or looked at: " + tree, tree, isLookedAt(tree.getRightOperand().toString()));
        }
        return super.visitBinary(tree, none);
    }

    /** Numbers and names of constants; and the few divisors that are looked at where they are used, each one known here. */
    private static boolean isLookedAt(String divisor) {
        return divisor.matches("[1-9]\\d*|[A-Z_]+")
            // the rest that a loop asks not to be 0; the divisor of an if; ways, 1 at least; kinds, 2 at least; n, 1 at least
            || Set.of("rest", "divisor", "ways", "(kinds - 1)", "(2 * n)").contains(divisor);
    }

    @Override
    public Void visitAssignment(AssignmentTree tree, Void none) {
        unchanged(tree.getVariable());
        return super.visitAssignment(tree, none);
    }

    @Override
    public Void visitCompoundAssignment(CompoundAssignmentTree tree, Void none) {
        unchanged(tree.getVariable());
        rule(10, "texts joined by +=", tree, isNumber(type(tree.getVariable())));
        return super.visitCompoundAssignment(tree, none);
    }

    @Override
    public Void visitUnary(UnaryTree tree, Void none) {
        boolean changes = Set.of(Tree.Kind.POSTFIX_INCREMENT, Tree.Kind.POSTFIX_DECREMENT, Tree.Kind.PREFIX_INCREMENT,
            Tree.Kind.PREFIX_DECREMENT).contains(tree.getKind());
        if (changes) {
            unchanged(tree.getExpression());
        }
        return super.visitUnary(tree, none);
    }

    private void unchanged(ExpressionTree variable) {
        if (variable instanceof ArrayAccessTree) {
            Element row = element(((ArrayAccessTree) variable).getExpression());
            rule(5, "a constant's row is changed", variable, row == null || !row.getModifiers().contains(Modifier.STATIC));
        }
    }

    @Override
    public Void visitTypeCast(TypeCastTree tree, Void none) {
        rule(6, "a cast of an object", tree, isNumber(type(tree.getType())));
        return super.visitTypeCast(tree, none);
    }

    @Override
    public Void visitLiteral(LiteralTree tree, Void none) {
        if (tree.getValue() instanceof String) {
            boolean plain = ((String) tree.getValue()).chars().allMatch(c -> c >= 1 && c <= 127);
            rule(4, "a sign of a text", tree, plain);
        }
        return super.visitLiteral(tree, none);
    }

    @Override
    public Void visitIdentifier(IdentifierTree tree, Void none) {
        rule(13, "what the machine or the clock tells", tree, !Set.of("Thread", "Runtime", "Random", "File", "Object").contains(tree.getName().toString()));
        return super.visitIdentifier(tree, none);
    }

    @Override
    public Void visitForLoop(ForLoopTree tree, Void none) {
        rule(9, "a loop without an end", tree, tree.getCondition() != null && !tree.getUpdate().isEmpty()
            && tree.getCondition().toString().matches(".*(<|>|!=).*"));
        return super.visitForLoop(tree, none);
    }

    @Override
    public Void visitWhileLoop(WhileLoopTree tree, Void none) {
        // a counter against a bound, which each round counts up
        rule(9, "a loop without a counter", tree, tree.getCondition().toString().startsWith("(next < length && ")
            && tree.getStatement().toString().replaceAll("\\s", "").equals("{next++;}"));
        return super.visitWhileLoop(tree, none);
    }

    private Void never(int number, Tree tree) {
        rule(number, "a " + tree.getKind(), tree, false);
        return null;
    }

    @Override
    public Void visitDoWhileLoop(DoWhileLoopTree tree, Void none) {
        return never(9, tree);
    }

    @Override
    public Void visitLambdaExpression(LambdaExpressionTree tree, Void none) {
        return never(2, tree);
    }

    @Override
    public Void visitMemberReference(MemberReferenceTree tree, Void none) {
        return never(2, tree);
    }

    @Override
    public Void visitThrow(ThrowTree tree, Void none) {
        return never(6, tree);
    }

    @Override
    public Void visitTry(TryTree tree, Void none) {
        return never(6, tree);
    }

    @Override
    public Void visitSynchronized(SynchronizedTree tree, Void none) {
        return never(6, tree);
    }

    @Override
    public Void visitAssert(AssertTree tree, Void none) {
        return never(6, tree);
    }

    @Override
    public Void visitInstanceOf(InstanceOfTree tree, Void none) {
        return never(6, tree);
    }

    /** Rule 8 and 11: how many calls stand open at once where this one is the first; none calls itself. */
    private int depth(ExecutableElement method, Set<ExecutableElement> open) {
        if (!open.add(method)) {
            Check.due("rule 8: " + method + " calls itself", true, false);
            return 0;
        }
        Integer known = depths.get(method);
        int deepest = 0;
        if (known == null) {
            for (ExecutableElement called : calls.getOrDefault(method, Set.of())) {
                deepest = Math.max(deepest, depth(called, open));
            }
            depths.put(method, deepest + 1);
        }
        open.remove(method);
        return depths.get(method);
    }

    private void names() {
        Set<String> ofTheFace = new HashSet<>();
        for (ExecutableElement method : calls.keySet()) {
            if (method.getModifiers().contains(Modifier.PUBLIC)) {
                ofTheFace.add(method.getSimpleName().toString());
            }
        }
        Check.due("the methods of the face", ofTheFace.size() > 40, true);
        for (ExecutableElement method : calls.keySet()) {
            boolean isPublic = method.getModifiers().contains(Modifier.PUBLIC);
            boolean taken = method.getKind() == ElementKind.METHOD && ofTheFace.contains(method.getSimpleName().toString());
            Check.due("rule 1: " + method + " bears a name of the face", !isPublic && taken, false);
            Check.due("rule 11: calls go " + depth(method, new HashSet<>()) + " deep from " + method, depth(method, new HashSet<>()) <= 8, true);
        }
        Check.due("rule 11: some twelve classes", classes <= 12, true);
    }

    public static void main(String[] args) throws IOException {
        JavaCompiler compiler = ToolProvider.getSystemJavaCompiler();
        StandardJavaFileManager files = compiler.getStandardFileManager(null, null, null);
        JavacTask task = (JavacTask) compiler.getTask(null, files, null, List.of("-proc:none"), null, files.getJavaFileObjects(SOURCE.toFile()));
        List<CompilationUnitTree> units = new ArrayList<>();
        task.parse().forEach(units::add);
        task.analyze();
        CompilationUnitTree unit = units.get(0);
        LanguageTest test = new LanguageTest(Trees.instance(task), unit);
        test.scan(unit, null);
        test.names();
        Check.due("rule 1: no package", unit.getPackageName() == null, true);
        Check.due("the file has one class outside", unit.getTypeDecls().size(), 1);
        String text = Files.readString(SOURCE);
        Check.due("rule 3: signs of the file", text.chars().allMatch(c -> c == '\n' || c >= 32 && c <= 126), true);
        Check.finish("LanguageTest");
    }
}
