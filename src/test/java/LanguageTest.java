import com.sun.source.tree.BinaryTree;
import com.sun.source.tree.ClassTree;
import com.sun.source.tree.CompilationUnitTree;
import com.sun.source.tree.ExpressionTree;
import com.sun.source.tree.MemberSelectTree;
import com.sun.source.tree.MethodInvocationTree;
import com.sun.source.tree.MethodTree;
import com.sun.source.tree.NewClassTree;
import com.sun.source.tree.Tree;
import com.sun.source.tree.Tree.Kind;
import com.sun.source.tree.VariableTree;
import com.sun.source.util.JavacTask;
import com.sun.source.util.SourcePositions;
import com.sun.source.util.TreeScanner;
import com.sun.source.util.Trees;
import java.io.IOException;
import java.nio.file.Path;
import java.util.ArrayDeque;
import java.util.Deque;
import java.util.EnumMap;
import java.util.Map;
import java.util.Set;
import java.util.TreeMap;
import java.util.TreeSet;
import javax.lang.model.element.Modifier;
import javax.tools.JavaCompiler;
import javax.tools.StandardJavaFileManager;
import javax.tools.ToolProvider;

/** What ../shared/LANGUAGE.md asks of the class's source, as far as the compiler's tree of it shows that. */
public final class LanguageTest extends TreeScanner<Void, Void> {
    private static final Path SOURCE = Path.of("src/main/java/PageKernel.java");
    private static final String MADE = "new ";
    // Of rule 4's library the class needs this alone.
    private static final String LIBRARY = "Integer.bitCount";

    private static final int MOST_PARAMETERS = 7;
    private static final int MOST_LINES = 60;
    private static final int MOST_DEPTH = 8;
    private static final int MOST_CLASSES = 12;
    private static final int MOST_FIELDS = 20;

    // Some of these the rules allow in places, but this class needs none of them.
    private static final Map<Kind, String> REFUSED = new EnumMap<>(Map.of(
        Kind.LAMBDA_EXPRESSION, "rule 2: a lambda",
        Kind.MEMBER_REFERENCE, "rule 2: a method reference",
        Kind.IMPORT, "rule 4: an import",
        Kind.THROW, "rule 6: a throw, but the document names no exception",
        Kind.TRY, "rule 6: a try, but there is nothing to catch",
        Kind.SYNCHRONIZED, "rule 6: synchronized",
        Kind.ASSERT, "rule 6: assert",
        Kind.TYPE_CAST, "rule 6: a cast",
        Kind.WHILE_LOOP, "rule 9: a loop without a counter",
        Kind.DO_WHILE_LOOP, "rule 9: a loop without a counter"));

    private final CompilationUnitTree unit;
    private final SourcePositions positions;
    private final Deque<String> classes = new ArrayDeque<>();
    private final Map<String, Set<String>> callsOf = new TreeMap<>();
    private String method = "";
    private int classCount;

    private LanguageTest(CompilationUnitTree unit, SourcePositions positions) {
        this.unit = unit;
        this.positions = positions;
    }

    public static void main(String[] args) throws IOException {
        JavaCompiler compiler = ToolProvider.getSystemJavaCompiler();
        try (StandardJavaFileManager files = compiler.getStandardFileManager(null, null, null)) {
            JavacTask task = (JavacTask) compiler.getTask(null, files, null, null, null, files.getJavaFileObjects(SOURCE));
            for (CompilationUnitTree unit : task.parse()) {
                LanguageTest test = new LanguageTest(unit, Trees.instance(task).getSourcePositions());
                test.scan(unit, null);
                test.lookAtWhole();
            }
        }
        Due.end();
    }

    private void lookAtWhole() {
        Due.in("LANGUAGE.md");
        Due.that("one file without a package line", unit.getPackageName() == null);
        Due.that("rule 11: " + classCount + " classes", classCount <= MOST_CLASSES);
        Due.that("this test has seen the methods", callsOf.containsKey("spawn") && callsOf.containsKey("told"));
        for (String name : callsOf.keySet()) {
            lookAtPath(name, new ArrayDeque<>());
        }
    }

    /** Looks at each row of calls that goes on from the open ones by this one. */
    private void lookAtPath(String name, Deque<String> open) {
        Due.that("rule 4: " + open + " calls " + name + " of its own", callsOf.containsKey(name));
        boolean again = open.contains(name);
        Due.that("rule 8: " + open + " calls " + name + " only once", !again);
        if (again || !callsOf.containsKey(name)) {
            return;
        }
        open.addLast(name);
        Due.that("rule 11: the depth of " + open, open.size() <= MOST_DEPTH);
        for (String called : callsOf.get(name)) {
            lookAtPath(called, open);
        }
        open.removeLast();
    }

    private void hold(String what, Tree at, boolean holds) {
        Due.in("LANGUAGE.md, line " + lineOf(positions.getStartPosition(unit, at)));
        Due.that(what, holds);
    }

    private long lineOf(long position) {
        return unit.getLineMap().getLineNumber(position);
    }

    @Override
    public Void scan(Tree tree, Void none) {
        if (tree != null && REFUSED.containsKey(tree.getKind())) {
            hold(REFUSED.get(tree.getKind()), tree, false);
        }
        boolean makes = tree != null && (tree.getKind() == Kind.NEW_CLASS || tree.getKind() == Kind.NEW_ARRAY);
        if (makes) {
            hold("rule 12: made in a constructor", tree, method.startsWith(MADE));
        }
        return super.scan(tree, none);
    }

    @Override
    public Void visitClass(ClassTree type, Void none) {
        Set<Modifier> flags = type.getModifiers().getFlags();
        hold("rule 1: a class inside is private or package-visible, and static", type, classes.isEmpty()
            || flags.contains(Modifier.STATIC) && !flags.contains(Modifier.PUBLIC) && !flags.contains(Modifier.PROTECTED));
        classCount++;
        int fields = 0;
        for (Tree member : type.getMembers()) {
            hold("rule 5: an initialiser block", member, member.getKind() != Kind.BLOCK);
            if (member instanceof VariableTree field && !isConstant(field)) {
                fields++;
                hold("rule 5: a static field is final", field, !isStatic(field));
            }
        }
        hold("rule 11: " + fields + " fields", type, fields <= MOST_FIELDS);
        classes.push(type.getSimpleName().toString());
        super.visitClass(type, none);
        classes.pop();
        return null;
    }

    private static boolean isStatic(VariableTree field) {
        return field.getModifiers().getFlags().contains(Modifier.STATIC);
    }

    private static boolean isConstant(VariableTree field) {
        return isStatic(field) && field.getModifiers().getFlags().contains(Modifier.FINAL);
    }

    @Override
    public Void visitMethod(MethodTree declared, Void none) {
        boolean constructor = declared.getReturnType() == null;
        method = constructor ? MADE + classes.peek() : declared.getName().toString();
        // The depth is found by names alone.
        hold(method + " has a name of its own", declared, callsOf.put(method, new TreeSet<>()) == null);
        hold("rule 11: " + method + "'s parameters", declared, declared.getParameters().size() <= MOST_PARAMETERS);
        long first = lineOf(positions.getStartPosition(unit, declared));
        long last = lineOf(positions.getEndPosition(unit, declared));
        hold("rule 11: " + method + "'s lines", declared, last - first < MOST_LINES);
        super.visitMethod(declared, none);
        method = "";
        return null;
    }

    @Override
    public Void visitMethodInvocation(MethodInvocationTree call, Void none) {
        ExpressionTree called = call.getMethodSelect();
        if (!called.toString().equals(LIBRARY)) {
            note(called instanceof MemberSelectTree of ? of.getIdentifier().toString() : called.toString(), call);
        }
        return super.visitMethodInvocation(call, none);
    }

    @Override
    public Void visitNewClass(NewClassTree made, Void none) {
        note(MADE + made.getIdentifier(), made);
        for (ExpressionTree argument : made.getArguments()) {
            hold("rule 12: a constructor hands out itself", made, !argument.toString().equals("this"));
        }
        return super.visitNewClass(made, none);
    }

    private void note(String called, Tree call) {
        hold("a call stands in a method", call, callsOf.containsKey(method));
        callsOf.getOrDefault(method, new TreeSet<>()).add(called);
    }

    @Override
    public Void visitBinary(BinaryTree binary, Void none) {
        boolean divides = binary.getKind() == Kind.DIVIDE || binary.getKind() == Kind.REMAINDER;
        hold("rule 7: a divisor is a constant", binary, !divides || binary.getRightOperand().toString().matches("[A-Z_]+"));
        return super.visitBinary(binary, none);
    }
}
