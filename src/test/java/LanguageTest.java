import com.sun.source.tree.BlockTree;
import com.sun.source.tree.CompilationUnitTree;
import com.sun.source.tree.DoWhileLoopTree;
import com.sun.source.tree.ExpressionTree;
import com.sun.source.tree.ForLoopTree;
import com.sun.source.tree.IdentifierTree;
import com.sun.source.tree.LiteralTree;
import com.sun.source.tree.MethodInvocationTree;
import com.sun.source.tree.MethodTree;
import com.sun.source.tree.NewArrayTree;
import com.sun.source.tree.NewClassTree;
import com.sun.source.tree.Tree;
import com.sun.source.tree.TypeCastTree;
import com.sun.source.tree.WhileLoopTree;
import com.sun.source.util.JavacTask;
import com.sun.source.util.SourcePositions;
import com.sun.source.util.TreeScanner;
import com.sun.source.util.Trees;
import java.io.IOException;
import java.nio.file.Path;
import java.util.Map;
import java.util.Set;
import java.util.TreeMap;
import java.util.TreeSet;
import javax.tools.JavaCompiler;
import javax.tools.StandardJavaFileManager;
import javax.tools.ToolProvider;

/** The rules of LANGUAGE.md that the program's syntax tree shows: arrays, calls, loops and lengths. */
public final class LanguageTest extends TreeScanner<Void, Void> {
    private static final Path PROGRAM = Path.of("src/main/java/StoryWorld.java");
    private static final int MOST_LINES = 60;
    private static final int MOST_DEPTH = 6;

    private final Due due;
    private final CompilationUnitTree unit;
    private final SourcePositions positions;
    private final Map<String, Set<String>> calls = new TreeMap<>();
    private String method = "";
    private int argumentsAround = 0;

    private LanguageTest(Due due, CompilationUnitTree unit, SourcePositions positions) {
        this.due = due;
        this.unit = unit;
        this.positions = positions;
    }

    public static void main(String[] args) throws IOException {
        Due due = new Due();
        JavaCompiler compiler = ToolProvider.getSystemJavaCompiler();
        try (StandardJavaFileManager files = compiler.getStandardFileManager(null, null, null)) {
            JavacTask task = (JavacTask) compiler.getTask(null, files, null, null, null,
                    files.getJavaFileObjects(PROGRAM));
            CompilationUnitTree unit = task.parse().iterator().next();
            due.is("types in the file", 1, unit.getTypeDecls().size());
            LanguageTest test = new LanguageTest(due, unit, Trees.instance(task).getSourcePositions());
            test.scan(unit, null);
            test.depths();
        }
        due.end();
    }

    private long line(long position) {
        return unit.getLineMap().getLineNumber(position);
    }

    private String at(Tree tree) {
        return " in line " + line(positions.getStartPosition(unit, tree));
    }

    @Override
    public Void visitMethod(MethodTree tree, Void nothing) {
        method = tree.getName().toString();
        calls.computeIfAbsent(method, name -> new TreeSet<>());
        BlockTree body = tree.getBody();
        long lines = line(positions.getEndPosition(unit, body)) - line(positions.getStartPosition(unit, body));
        due.yes(method + " is short", lines <= MOST_LINES);
        super.visitMethod(tree, nothing);
        method = "";
        return null;
    }

    @Override
    public Void visitMethodInvocation(MethodInvocationTree tree, Void nothing) {
        ExpressionTree called = tree.getMethodSelect();
        String name = called.toString();
        // The constructor's call of the one above it has no lines of its own.
        if (!name.equals("super")) {
            due.yes(name + " is a method of the class itself" + at(tree), called instanceof IdentifierTree);
            due.is(name + " stands in no arguments" + at(tree), 0, argumentsAround);
            calls.get(method).add(name);
        }
        argumentsAround++;
        super.visitMethodInvocation(tree, nothing);
        argumentsAround--;
        return null;
    }

    @Override
    public Void visitNewArray(NewArrayTree tree, Void nothing) {
        due.yes("an array is made in a field's initialiser" + at(tree), method.isEmpty());
        due.is("its lengths" + at(tree), 1, tree.getDimensions().size());
        boolean constant = tree.getDimensions().stream().allMatch(length -> length instanceof LiteralTree
                || length instanceof IdentifierTree && length.toString().matches("[A-Z_]+"));
        due.yes("its length is a literal or a constant" + at(tree), constant);
        return super.visitNewArray(tree, nothing);
    }

    @Override
    public Void visitNewClass(NewClassTree tree, Void nothing) {
        due.no("an object is made" + at(tree), true);
        return super.visitNewClass(tree, nothing);
    }

    @Override
    public Void visitTypeCast(TypeCastTree tree, Void nothing) {
        due.yes("a cast to a number" + at(tree), tree.getType().toString().matches("int|long|short|byte|char"));
        return super.visitTypeCast(tree, nothing);
    }

    @Override
    public Void visitForLoop(ForLoopTree tree, Void nothing) {
        due.yes("a for loop has a bound" + at(tree), isBound(tree.getCondition()));
        due.is("and one counter" + at(tree), 1, tree.getUpdate().size());
        return super.visitForLoop(tree, nothing);
    }

    @Override
    public Void visitWhileLoop(WhileLoopTree tree, Void nothing) {
        due.yes("a while loop has a bound" + at(tree), isBound(tree.getCondition()));
        return super.visitWhileLoop(tree, nothing);
    }

    @Override
    public Void visitDoWhileLoop(DoWhileLoopTree tree, Void nothing) {
        due.yes("a do loop has a bound" + at(tree), isBound(tree.getCondition()));
        return super.visitDoWhileLoop(tree, nothing);
    }

    /** A name that is less than something: what counts up to it is seen by the reader alone. */
    private static boolean isBound(ExpressionTree condition) {
        return condition != null && condition.toString().matches("\\(?\\w+ <=? .*");
    }

    private void depths() {
        for (String name : calls.keySet()) {
            int depth = depth(name, new TreeSet<>());
            due.yes(name + " calls " + depth + " deep, not itself", depth <= MOST_DEPTH);
        }
    }

    /** How many calls stand above one another, this one counted; very many if one is above itself. */
    private int depth(String name, Set<String> above) {
        if (above.contains(name)) {
            return 1000;
        }
        Set<String> path = new TreeSet<>(above);
        path.add(name);
        int deepest = 0;
        for (String called : calls.getOrDefault(name, Set.of())) {
            deepest = Math.max(deepest, depth(called, path));
        }
        return deepest + 1;
    }
}
