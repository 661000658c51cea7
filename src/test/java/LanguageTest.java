import com.sun.source.tree.ArrayAccessTree;
import com.sun.source.tree.AssertTree;
import com.sun.source.tree.BinaryTree;
import com.sun.source.tree.BlockTree;
import com.sun.source.tree.ClassTree;
import com.sun.source.tree.CompilationUnitTree;
import com.sun.source.tree.CompoundAssignmentTree;
import com.sun.source.tree.DoWhileLoopTree;
import com.sun.source.tree.EnhancedForLoopTree;
import com.sun.source.tree.ExpressionTree;
import com.sun.source.tree.ForLoopTree;
import com.sun.source.tree.IdentifierTree;
import com.sun.source.tree.ImportTree;
import com.sun.source.tree.LambdaExpressionTree;
import com.sun.source.tree.LiteralTree;
import com.sun.source.tree.MemberReferenceTree;
import com.sun.source.tree.MethodInvocationTree;
import com.sun.source.tree.MethodTree;
import com.sun.source.tree.NewArrayTree;
import com.sun.source.tree.NewClassTree;
import com.sun.source.tree.SynchronizedTree;
import com.sun.source.tree.ThrowTree;
import com.sun.source.tree.Tree;
import com.sun.source.tree.TryTree;
import com.sun.source.tree.TypeCastTree;
import com.sun.source.tree.VariableTree;
import com.sun.source.tree.WhileLoopTree;
import com.sun.source.util.JavacTask;
import com.sun.source.util.SourcePositions;
import com.sun.source.util.TreePath;
import com.sun.source.util.TreePathScanner;
import com.sun.source.util.TreeScanner;
import com.sun.source.util.Trees;
import java.io.IOException;
import java.nio.file.Files;
import java.nio.file.Path;
import java.util.HashSet;
import java.util.List;
import java.util.Map;
import java.util.Set;
import java.util.TreeMap;
import java.util.TreeSet;
import javax.lang.model.element.Element;
import javax.lang.model.element.ElementKind;
import javax.lang.model.element.Modifier;
import javax.lang.model.element.VariableElement;
import javax.lang.model.type.ArrayType;
import javax.lang.model.type.TypeMirror;
import javax.tools.JavaCompiler;
import javax.tools.StandardJavaFileManager;
import javax.tools.ToolProvider;

/**
 * Goes through the class by the compiler's own tree, rule by rule of ../shared/LANGUAGE.md; the face (rule 1)
 * and the room (rule 12) are in FaceTest.
 */
public final class LanguageTest extends TreePathScanner<Void, Void> {
    private static final Path SOURCE = Path.of("src/main/java/OverflowRows.java");
    private static final Set<String> LIBRARY = Set.of("java.lang.System.arraycopy", "java.util.Arrays.fill",
            "java.lang.Math.min", "java.lang.Math.max", "java.lang.Math.floorMod");
    private static final Set<String> NUMBERS = Set.of("int", "long", "short", "byte", "char", "boolean");
    private static final Set<Tree.Kind> COMPARISONS = Set.of(Tree.Kind.LESS_THAN, Tree.Kind.LESS_THAN_EQUAL,
            Tree.Kind.GREATER_THAN, Tree.Kind.GREATER_THAN_EQUAL);
    private static final Check check = new Check();

    private final CompilationUnitTree unit;
    private final Trees trees;
    private final SourcePositions positions;
    private final Map<String, Set<String>> calls = new TreeMap<>();
    private int classes = 0;
    private String method = "";
    private boolean inConstructor = false;
    private int loops = 0;
    private Set<String> looked = new HashSet<>();

    private LanguageTest(CompilationUnitTree unit, Trees trees) {
        this.unit = unit;
        this.trees = trees;
        positions = trees.getSourcePositions();
    }

    public static void main(String[] args) throws IOException {
        signs();
        JavaCompiler compiler = ToolProvider.getSystemJavaCompiler();
        check.due("there is a compiler to ask", compiler == null ? 0 : 1, 1);
        if (compiler != null) {
            try (StandardJavaFileManager files = compiler.getStandardFileManager(null, null, null)) {
                JavacTask task = (JavacTask) compiler.getTask(null, files, null, List.of("-proc:none"), null,
                        files.getJavaFileObjects(SOURCE.toFile()));
                CompilationUnitTree unit = task.parse().iterator().next();
                task.analyze();
                LanguageTest test = new LanguageTest(unit, Trees.instance(task));
                test.scan(unit, null);
                test.all();
            }
        }
        check.finish();
    }

    private static void signs() throws IOException {
        rule(4, "constants, whose signs are 1 to 127");
        for (byte sign : Files.readAllBytes(SOURCE)) {
            if (sign <= 0) {
                check.due("a sign of the file", sign, 127);
            }
        }
    }

    private static void rule(int number, String words) {
        check.sentence("LANGUAGE.md, rule " + number, words);
    }

    /** Tells the line of what breaks a rule. */
    private void must(Tree tree, boolean holds) {
        check.due("line " + line(positions.getStartPosition(unit, tree)), holds ? 1 : 0, 1);
    }

    private long line(long position) {
        return unit.getLineMap().getLineNumber(position);
    }

    private Element element() {
        return trees.getElement(getCurrentPath());
    }

    private static boolean isOwn(Element type) {
        return type.toString().equals("OverflowRows") || type.toString().startsWith("OverflowRows.");
    }

    // ---- what is asked of the whole

    private void all() {
        rule(1, "one public class");
        check.due("classes of the file", unit.getTypeDecls().size(), 1);
        rule(11, "the file has at most some twelve classes");
        check.due(classes + " classes", classes <= 12 ? 1 : 0, 1);
        for (String caller : calls.keySet()) {
            rule(8, "calls that call themselves carry their depth; there are none");
            check.due(caller + " is called by what it calls", reaches(caller, caller, new HashSet<>()) ? 1 : 0, 0);
        }
        for (String caller : calls.keySet()) {
            rule(11, "calls that are no recursion go at most eight deep");
            int depth = depth(caller, 0);
            check.due(caller + " goes " + depth + " deep", depth <= 8 ? 1 : 0, 1);
        }
    }

    private boolean reaches(String from, String to, Set<String> seen) {
        for (String called : calls.getOrDefault(from, Set.of())) {
            if (called.equals(to) || seen.add(called) && reaches(called, to, seen)) {
                return true;
            }
        }
        return false;
    }

    private int depth(String caller, int above) {
        int deepest = 0;
        for (String called : calls.getOrDefault(caller, Set.of())) {
            deepest = above > 20 ? 20 : Math.max(deepest, depth(called, above + 1));
        }
        return deepest + 1;
    }

    // ---- what is asked of each part

    @Override
    public Void visitImport(ImportTree tree, Void nothing) {
        rule(4, "The library: only what stands here.");
        must(tree, !tree.isStatic() && tree.getQualifiedIdentifier().toString().equals("java.util.Arrays"));
        return null;
    }

    @Override
    public Void visitClass(ClassTree tree, Void nothing) {
        classes++;
        rule(2, "static nested classes, none inside a method");
        boolean outer = getCurrentPath().getParentPath().getLeaf() == unit;
        must(tree, outer || tree.getModifiers().getFlags().contains(Modifier.STATIC));
        must(tree, outer || getCurrentPath().getParentPath().getLeaf() instanceof ClassTree);
        rule(11, "a class some twenty fields beside its constants");
        int fields = 0;
        for (Tree member : tree.getMembers()) {
            boolean counts = member instanceof VariableTree
                    && !((VariableTree) member).getModifiers().getFlags().contains(Modifier.STATIC);
            fields += counts ? 1 : 0;
            rule(5, "no static initialiser block");
            must(member, !(member instanceof BlockTree));
        }
        must(tree, fields <= 20);
        return super.visitClass(tree, nothing);
    }

    @Override
    public Void visitMethod(MethodTree tree, Void nothing) {
        rule(6, "No equals, hashCode or toString of your own objects");
        must(tree, !Set.of("equals", "hashCode", "toString").contains(tree.getName().toString()));
        rule(11, "A method takes at most seven parameters.");
        must(tree, tree.getParameters().size() <= 7);
        rule(11, "Methods stay short (some sixty lines)");
        long lines = line(positions.getEndPosition(unit, tree)) - line(positions.getStartPosition(unit, tree)) + 1;
        must(tree, lines <= 60);
        method = element().getEnclosingElement() + "." + element();
        inConstructor = element().getKind() == ElementKind.CONSTRUCTOR;
        looked = lookedAtIn(tree);
        calls.putIfAbsent(method, new TreeSet<>());
        return super.visitMethod(tree, nothing);
    }

    /** The names that a method compares, or makes by Math.floorMod. */
    private static Set<String> lookedAtIn(MethodTree method) {
        Set<String> names = new HashSet<>();
        new TreeScanner<Void, Void>() {
            @Override
            public Void visitBinary(BinaryTree tree, Void nothing) {
                if (COMPARISONS.contains(tree.getKind())) {
                    names.addAll(namesIn(tree));
                }
                return super.visitBinary(tree, nothing);
            }

            @Override
            public Void visitVariable(VariableTree tree, Void nothing) {
                if (String.valueOf(tree.getInitializer()).startsWith("Math.floorMod(")) {
                    names.add(tree.getName().toString());
                }
                return super.visitVariable(tree, nothing);
            }
        }.scan(method, null);
        return names;
    }

    private static Set<String> namesIn(Tree part) {
        Set<String> names = new HashSet<>();
        new TreeScanner<Void, Void>() {
            @Override
            public Void visitIdentifier(IdentifierTree tree, Void nothing) {
                names.add(tree.getName().toString());
                return null;
            }
        }.scan(part, null);
        return names;
    }

    @Override
    public Void visitVariable(VariableTree tree, Void nothing) {
        rule(3, "Types: numbers, arrays of these and of your own classes, your own classes");
        must(tree, isAllowed(element().asType()));
        Set<Modifier> flags = tree.getModifiers().getFlags();
        if (flags.contains(Modifier.STATIC)) {
            rule(5, "Static fields are final: constants");
            must(tree, flags.contains(Modifier.FINAL));
            must(tree, ((VariableElement) element()).getConstantValue() != null);
        }
        return super.visitVariable(tree, nothing);
    }

    private static boolean isAllowed(TypeMirror type) {
        if (!(type instanceof ArrayType)) {
            return NUMBERS.contains(type.toString()) || isOwnType(type);
        }
        TypeMirror part = ((ArrayType) type).getComponentType();
        boolean twoDimensions = part instanceof ArrayType
                && NUMBERS.contains(((ArrayType) part).getComponentType().toString());
        return twoDimensions || NUMBERS.contains(part.toString()) || isOwnType(part);
    }

    private static boolean isOwnType(TypeMirror type) {
        return type.toString().startsWith("OverflowRows");
    }

    @Override
    public Void visitMethodInvocation(MethodInvocationTree tree, Void nothing) {
        Element called = element();
        String name = called.getEnclosingElement() + "." + called.getSimpleName();
        if (isOwn(called.getEnclosingElement())) {
            calls.computeIfAbsent(method, caller -> new TreeSet<>()).add(called.getEnclosingElement() + "." + called);
        } else if (!called.getSimpleName().contentEquals("<init>")) {
            rule(4, "The library: only what stands here.");
            must(tree, LIBRARY.contains(name));
        }
        return super.visitMethodInvocation(tree, nothing);
    }

    @Override
    public Void visitNewClass(NewClassTree tree, Void nothing) {
        rule(2, "no anonymous class");
        must(tree, tree.getClassBody() == null);
        rule(4, "The library: only what stands here.");
        must(tree, isOwn(element().getEnclosingElement()));
        rule(12, "none in a loop without a bound");
        must(tree, loops == 0 || inConstructor);
        calls.computeIfAbsent(method, caller -> new TreeSet<>())
                .add(element().getEnclosingElement() + "." + element());
        return super.visitNewClass(tree, nothing);
    }

    @Override
    public Void visitNewArray(NewArrayTree tree, Void nothing) {
        rule(12, "none in a loop without a bound");
        must(tree, loops == 0);
        return super.visitNewArray(tree, nothing);
    }

    @Override
    public Void visitArrayAccess(ArrayAccessTree tree, Void nothing) {
        rule(7, "an index is looked at before it is used");
        boolean found = false;
        for (String name : namesIn(tree.getIndex())) {
            found = found || looked.contains(name);
        }
        must(tree, found);
        return super.visitArrayAccess(tree, nothing);
    }

    // ---- what stands in methods

    @Override
    public Void visitBinary(BinaryTree tree, Void nothing) {
        if (tree.getKind() == Tree.Kind.DIVIDE || tree.getKind() == Tree.Kind.REMAINDER) {
            isDivisor(tree.getRightOperand());
        }
        return super.visitBinary(tree, nothing);
    }

    @Override
    public Void visitCompoundAssignment(CompoundAssignmentTree tree, Void nothing) {
        if (tree.getKind() == Tree.Kind.DIVIDE_ASSIGNMENT || tree.getKind() == Tree.Kind.REMAINDER_ASSIGNMENT) {
            isDivisor(tree.getExpression());
        }
        return super.visitCompoundAssignment(tree, nothing);
    }

    /** All divisors are constants, so that none has to be looked at when a call is made. */
    private void isDivisor(ExpressionTree tree) {
        rule(7, "a divisor before it divides");
        if (tree instanceof LiteralTree) {
            must(tree, !((LiteralTree) tree).getValue().equals(0));
            return;
        }
        Element divisor = trees.getElement(new TreePath(getCurrentPath(), tree));
        Object value = divisor instanceof VariableElement ? ((VariableElement) divisor).getConstantValue() : null;
        must(tree, value != null && !value.equals(0));
    }

    @Override
    public Void visitForLoop(ForLoopTree tree, Void nothing) {
        rule(9, "Every loop has an end that can be seen from its own lines");
        must(tree, tree.getCondition() != null && !tree.getUpdate().isEmpty());
        loops++;
        super.visitForLoop(tree, nothing);
        loops--;
        return null;
    }

    @Override
    public Void visitWhileLoop(WhileLoopTree tree, Void nothing) {
        rule(9, "Every loop has an end that can be seen from its own lines (a counter against a bound)");
        must(tree, tree.getCondition().toString().contains("<"));
        must(tree, tree.getStatement().toString().contains("++"));
        loops++;
        super.visitWhileLoop(tree, nothing);
        loops--;
        return null;
    }

    @Override
    public Void visitDoWhileLoop(DoWhileLoopTree tree, Void nothing) {
        rule(9, "Every loop has an end that can be seen from its own lines; of this kind there is none");
        must(tree, false);
        return null;
    }

    @Override
    public Void visitEnhancedForLoop(EnhancedForLoopTree tree, Void nothing) {
        loops++;
        super.visitEnhancedForLoop(tree, nothing);
        loops--;
        return null;
    }

    @Override
    public Void visitLiteral(LiteralTree tree, Void nothing) {
        rule(10, "joining texts by StringBuilder (not by +); there are no texts");
        must(tree, tree.getKind() != Tree.Kind.STRING_LITERAL);
        return null;
    }

    @Override
    public Void visitTypeCast(TypeCastTree tree, Void nothing) {
        rule(7, "casts among numbers only");
        must(tree, NUMBERS.contains(tree.getType().toString()));
        return super.visitTypeCast(tree, nothing);
    }

    private Void never(int rule, String words, Tree tree) {
        rule(rule, words);
        must(tree, false);
        return null;
    }

    @Override
    public Void visitThrow(ThrowTree tree, Void nothing) {
        return never(6, "No throw", tree);
    }

    @Override
    public Void visitTry(TryTree tree, Void nothing) {
        return never(6, "No try", tree);
    }

    @Override
    public Void visitSynchronized(SynchronizedTree tree, Void nothing) {
        return never(6, "No synchronized", tree);
    }

    @Override
    public Void visitAssert(AssertTree tree, Void nothing) {
        return never(6, "No assert", tree);
    }

    @Override
    public Void visitLambdaExpression(LambdaExpressionTree tree, Void nothing) {
        return never(2, "no lambda", tree);
    }

    @Override
    public Void visitMemberReference(MemberReferenceTree tree, Void nothing) {
        return never(2, "no method reference", tree);
    }
}
