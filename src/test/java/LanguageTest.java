import com.sun.source.tree.BinaryTree;
import com.sun.source.tree.ClassTree;
import com.sun.source.tree.CompilationUnitTree;
import com.sun.source.tree.IdentifierTree;
import com.sun.source.tree.ImportTree;
import com.sun.source.tree.LineMap;
import com.sun.source.tree.LiteralTree;
import com.sun.source.tree.MemberSelectTree;
import com.sun.source.tree.MethodInvocationTree;
import com.sun.source.tree.MethodTree;
import com.sun.source.tree.Tree;
import com.sun.source.tree.VariableTree;
import com.sun.source.util.JavacTask;
import com.sun.source.util.SourcePositions;
import com.sun.source.util.TreeScanner;
import com.sun.source.util.Trees;
import java.io.File;
import java.io.IOException;
import java.util.Collections;
import java.util.EnumSet;
import java.util.HashMap;
import java.util.IdentityHashMap;
import java.util.List;
import java.util.Map;
import java.util.Set;
import java.util.TreeMap;
import java.util.TreeSet;
import javax.lang.model.element.Modifier;
import javax.tools.JavaCompiler;
import javax.tools.StandardJavaFileManager;
import javax.tools.ToolProvider;

/** The rules of LANGUAGE.md that can be looked at in the source's tree; run from the project's folder. */
public final class LanguageTest extends TreeScanner<Void, Void> {
    private static final String MAIN = "src/main/java/FindingsWeb.java";
    private static final Set<Tree.Kind> NEVER = EnumSet.of(Tree.Kind.THROW, Tree.Kind.TRY, Tree.Kind.CATCH,
        Tree.Kind.SYNCHRONIZED, Tree.Kind.ASSERT, Tree.Kind.LAMBDA_EXPRESSION, Tree.Kind.MEMBER_REFERENCE,
        Tree.Kind.FLOAT_LITERAL, Tree.Kind.DOUBLE_LITERAL, Tree.Kind.INSTANCE_OF, Tree.Kind.ANNOTATION);
    private static final Set<String> LIBRARY = Set.of("length", "charAt", "append", "setLength", "arraycopy", "fill",
        "bitCount", "min", "max");
    private static final Set<String> OBJECTS = Set.of("equals", "hashCode", "toString");
    /** Of these only functions are listed: no constant of theirs, such as Long.MAX_VALUE, is in the library. */
    private static final Set<String> FUNCTIONS = Set.of("Integer", "Long", "Math", "Arrays", "System", "String");
    private static final int DEEPEST = 8;

    private final Map<String, Set<String>> calls = new TreeMap<>();
    private final Map<String, MethodTree> methods = new HashMap<>();
    private final Set<Tree> called = Collections.newSetFromMap(new IdentityHashMap<>());
    private CompilationUnitTree unit;
    private SourcePositions places;
    private LineMap lines;
    private String method = "";
    private int classes;

    public static void main(String[] args) throws IOException {
        JavaCompiler compiler = ToolProvider.getSystemJavaCompiler();
        StandardJavaFileManager files = compiler.getStandardFileManager(null, null, null);
        JavacTask task = (JavacTask) compiler.getTask(null, files, null, null, null, files.getJavaFileObjects(new File(MAIN)));
        LanguageTest test = new LanguageTest();
        test.places = Trees.instance(task).getSourcePositions();
        for (CompilationUnitTree u : task.parse()) {
            test.unit = u;
            test.lines = u.getLineMap();
            test.scan(u, null);
        }
        test.atTheEnd();
        Check.end("LanguageTest");
    }

    private void holds(String rule, Tree tree, boolean holds) {
        Check.that("rule " + rule + ", line " + lines.getLineNumber(places.getStartPosition(unit, tree)), holds);
    }

    @Override
    public Void scan(Tree tree, Void nothing) {
        if (tree != null) holds("6, " + tree.getKind(), tree, !NEVER.contains(tree.getKind()));
        return super.scan(tree, nothing);
    }

    @Override
    public Void visitImport(ImportTree tree, Void nothing) {
        String name = tree.getQualifiedIdentifier().toString();
        holds("4", tree, Set.of("java.util.Arrays", "java.util.ArrayList", "java.util.List", "java.util.Iterator").contains(name));
        return super.visitImport(tree, nothing);
    }

    @Override
    public Void visitClass(ClassTree tree, Void nothing) {
        classes++;
        Set<Modifier> m = tree.getModifiers().getFlags();
        boolean outer = tree.getSimpleName().contentEquals("FindingsWeb");
        holds("2: a static class inside", tree, outer || m.contains(Modifier.STATIC) && !m.contains(Modifier.PUBLIC));
        holds("2: no class within a method", tree, method.isEmpty());
        int fields = 0;
        for (Tree member : tree.getMembers()) {
            if (!(member instanceof VariableTree)) continue;
            Set<Modifier> flags = ((VariableTree) member).getModifiers().getFlags();
            if (flags.contains(Modifier.STATIC)) holds("5", member, flags.contains(Modifier.FINAL));
            else fields++;
            holds("1", member, !outer || flags.contains(Modifier.PRIVATE) || flags.contains(Modifier.PUBLIC));
        }
        holds("11: fields", tree, fields <= 20);
        return super.visitClass(tree, nothing);
    }

    @Override
    public Void visitMethod(MethodTree tree, Void nothing) {
        method = tree.getName().toString();
        methods.put(method, tree);
        long size = lines.getLineNumber(places.getEndPosition(unit, tree)) - lines.getLineNumber(places.getStartPosition(unit, tree));
        holds("11: a short method", tree, size <= 60);
        holds("11: parameters", tree, tree.getParameters().size() <= 7);
        holds("6: equals, hashCode, toString", tree, !OBJECTS.contains(method));
        calls.computeIfAbsent(method, k -> new TreeSet<>());
        super.visitMethod(tree, nothing);
        method = "";
        return null;
    }

    @Override
    public Void visitMethodInvocation(MethodInvocationTree tree, Void nothing) {
        Tree called = tree.getMethodSelect();
        String name = called instanceof MemberSelectTree ? ((MemberSelectTree) called).getIdentifier().toString()
            : ((IdentifierTree) called).getName().toString();
        calls.computeIfAbsent(method, k -> new TreeSet<>()).add(name);
        this.called.add(called);
        return super.visitMethodInvocation(tree, nothing);
    }

    @Override
    public Void visitMemberSelect(MemberSelectTree tree, Void nothing) {
        boolean ofLibrary = FUNCTIONS.contains(tree.getExpression().toString());
        holds("4: " + tree + " is a function that is called", tree, !ofLibrary || called.contains(tree));
        return super.visitMemberSelect(tree, nothing);
    }

    @Override
    public Void visitLiteral(LiteralTree tree, Void nothing) {
        Object value = tree.getValue();
        boolean isText = value instanceof String || value instanceof Character;
        holds("4: signs are 1 to 127", tree, !isText || String.valueOf(value).chars().allMatch(c -> c >= 1 && c <= 127));
        return super.visitLiteral(tree, nothing);
    }

    @Override
    public Void visitBinary(BinaryTree tree, Void nothing) {
        boolean text = tree.getLeftOperand().getKind() == Tree.Kind.STRING_LITERAL
            || tree.getRightOperand().getKind() == Tree.Kind.STRING_LITERAL;
        holds("10: texts are joined by StringBuilder", tree, !text || tree.getKind() != Tree.Kind.PLUS);
        return super.visitBinary(tree, nothing);
    }

    private void atTheEnd() {
        Check.that("rule 11: " + classes + " classes", classes <= 12);
        for (Map.Entry<String, Set<String>> c : calls.entrySet()) {
            for (String name : c.getValue()) {
                boolean known = calls.containsKey(name) || LIBRARY.contains(name) || name.equals("super");
                Check.that("rule 4: " + name + " in " + c.getKey(), known);
                if (name.equals(c.getKey()) && !name.equals("become")) {
                    Set<Modifier> m = methods.get(name).getModifiers().getFlags();
                    Check.that("rule 8: " + name, m.containsAll(List.of(Modifier.PRIVATE, Modifier.STATIC)));
                }
            }
            int deep = depth(c.getKey(), new TreeSet<>());
            Check.that("rule 11: calls from " + c.getKey() + " go " + deep + " deep", deep <= DEEPEST);
        }
    }

    /** How many methods stand open at once, that which begins counted, recursion once. */
    private int depth(String name, Set<String> open) {
        int deepest = 0;
        open.add(name);
        for (String next : calls.getOrDefault(name, Set.of())) {
            if (calls.containsKey(next) && !open.contains(next)) deepest = Math.max(deepest, depth(next, open));
        }
        open.remove(name);
        return deepest + 1;
    }
}
