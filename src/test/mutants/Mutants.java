import com.sun.source.tree.AssignmentTree;
import com.sun.source.tree.BinaryTree;
import com.sun.source.tree.CompilationUnitTree;
import com.sun.source.tree.CompoundAssignmentTree;
import com.sun.source.tree.ConditionalExpressionTree;
import com.sun.source.tree.ExpressionStatementTree;
import com.sun.source.tree.ExpressionTree;
import com.sun.source.tree.IdentifierTree;
import com.sun.source.tree.IfTree;
import com.sun.source.tree.LiteralTree;
import com.sun.source.tree.ReturnTree;
import com.sun.source.tree.Tree;
import com.sun.source.tree.UnaryTree;
import com.sun.source.util.JavacTask;
import com.sun.source.util.SourcePositions;
import com.sun.source.util.TreeScanner;
import com.sun.source.util.Trees;
import java.io.File;
import java.net.URI;
import java.nio.file.Files;
import java.nio.file.Path;
import java.util.ArrayList;
import java.util.List;
import java.util.Map;
import java.util.concurrent.ExecutorService;
import java.util.concurrent.Executors;
import java.util.concurrent.Future;
import java.util.concurrent.TimeUnit;
import javax.tools.JavaCompiler;
import javax.tools.JavaFileObject;
import javax.tools.SimpleJavaFileObject;
import javax.tools.ToolProvider;

/**
 * Breaks the program in one place at a time, and tells which of the broken programs a test lets pass.
 * Run by hand, from the project's folder: java src/test/mutants/Mutants.java EdgesTest
 */
public final class Mutants {
    private static final JavaCompiler JAVAC = ToolProvider.getSystemJavaCompiler();
    private static final Map<Tree.Kind, List<String>> OTHERS = Map.ofEntries(
            Map.entry(Tree.Kind.LESS_THAN, List.of("<=", "!=", ">=")), Map.entry(Tree.Kind.LESS_THAN_EQUAL, List.of("<", ">")),
            Map.entry(Tree.Kind.GREATER_THAN, List.of(">=", "<=")), Map.entry(Tree.Kind.GREATER_THAN_EQUAL, List.of(">", "<")),
            Map.entry(Tree.Kind.EQUAL_TO, List.of("!=")), Map.entry(Tree.Kind.NOT_EQUAL_TO, List.of("==")),
            Map.entry(Tree.Kind.PLUS, List.of("-")), Map.entry(Tree.Kind.MINUS, List.of("+")),
            Map.entry(Tree.Kind.MULTIPLY, List.of("+")), Map.entry(Tree.Kind.DIVIDE, List.of("*")),
            Map.entry(Tree.Kind.REMAINDER, List.of("+")), Map.entry(Tree.Kind.AND, List.of("|")), Map.entry(Tree.Kind.OR, List.of("&", "^")),
            Map.entry(Tree.Kind.CONDITIONAL_AND, List.of("||")), Map.entry(Tree.Kind.CONDITIONAL_OR, List.of("&&")));

    private record Change(long from, long to, String by) {}

    private static final class Source extends SimpleJavaFileObject {
        private final String text;

        Source(String text) {
            super(URI.create("string:///UrnHeap.java"), JavaFileObject.Kind.SOURCE);
            this.text = text;
        }

        @Override
        public CharSequence getCharContent(boolean ignore) {
            return text;
        }
    }

    /** Finds the places, and what may stand there instead. */
    private static final class Finder extends TreeScanner<Void, Void> {
        final List<Change> changes = new ArrayList<>();
        private final CompilationUnitTree unit;
        private final SourcePositions positions;
        private final String text;

        Finder(CompilationUnitTree unit, SourcePositions positions, String text) {
            this.unit = unit;
            this.positions = positions;
            this.text = text;
        }

        private long start(Tree tree) {
            return positions.getStartPosition(unit, tree);
        }

        private long end(Tree tree) {
            return positions.getEndPosition(unit, tree);
        }

        private String of(Tree tree) {
            return text.substring((int) start(tree), (int) end(tree));
        }

        private void put(Tree tree, String by) {
            changes.add(new Change(start(tree), end(tree), by));
        }

        @Override
        public Void visitBinary(BinaryTree tree, Void nothing) {
            for (String other : OTHERS.getOrDefault(tree.getKind(), List.of())) {
                changes.add(new Change(end(tree.getLeftOperand()), start(tree.getRightOperand()), " " + other + " "));
            }
            if (tree.getKind() == Tree.Kind.CONDITIONAL_AND || tree.getKind() == Tree.Kind.CONDITIONAL_OR) {
                put(tree, of(tree.getLeftOperand()));
                put(tree, of(tree.getRightOperand()));
            }
            return super.visitBinary(tree, nothing);
        }

        @Override
        public Void visitLiteral(LiteralTree tree, Void nothing) {
            Object value = tree.getValue();
            if (value instanceof Integer) {
                put(tree, "(" + value + " + 1)");
                put(tree, "(" + value + " - 1)");
            } else if (value instanceof Boolean) {
                put(tree, "" + !(Boolean) value);
            } else if (value instanceof Character) {
                put(tree, "(char) ((" + of(tree) + ") + 1)");
            }
            return super.visitLiteral(tree, nothing);
        }

        @Override
        public Void visitIdentifier(IdentifierTree tree, Void nothing) {
            if (tree.getName().toString().matches("[A-Z][A-Z_]+") && !text.startsWith(":", (int) end(tree))) {
                put(tree, "(" + tree.getName() + " + 1)");
                put(tree, "(" + tree.getName() + " - 1)");
            }
            return super.visitIdentifier(tree, nothing);
        }

        @Override
        public Void visitUnary(UnaryTree tree, Void nothing) {
            if (tree.getKind() == Tree.Kind.LOGICAL_COMPLEMENT || tree.getKind() == Tree.Kind.BITWISE_COMPLEMENT) {
                put(tree, of(tree.getExpression()));
            }
            return super.visitUnary(tree, nothing);
        }

        @Override
        public Void visitExpressionStatement(ExpressionStatementTree tree, Void nothing) {
            put(tree, ";");
            return super.visitExpressionStatement(tree, nothing);
        }

        @Override
        public Void visitIf(IfTree tree, Void nothing) {
            put(tree.getCondition(), "(true)");
            put(tree.getCondition(), "(false)");
            return super.visitIf(tree, nothing);
        }

        @Override
        public Void visitConditionalExpression(ConditionalExpressionTree tree, Void nothing) {
            put(tree, of(tree.getTrueExpression()));
            put(tree, of(tree.getFalseExpression()));
            return super.visitConditionalExpression(tree, nothing);
        }

        @Override
        public Void visitReturn(ReturnTree tree, Void nothing) {
            ExpressionTree value = tree.getExpression();
            if (value != null) {
                put(value, "1 + (" + of(value) + ")");
                put(value, "!(" + of(value) + ")");
            }
            return super.visitReturn(tree, nothing);
        }

        @Override
        public Void visitAssignment(AssignmentTree tree, Void nothing) {
            put(tree.getExpression(), "1 + (" + of(tree.getExpression()) + ")");
            return super.visitAssignment(tree, nothing);
        }

        @Override
        public Void visitCompoundAssignment(CompoundAssignmentTree tree, Void nothing) {
            changes.add(new Change(end(tree.getVariable()), start(tree.getExpression()), " = "));
            return super.visitCompoundAssignment(tree, nothing);
        }
    }

    public static void main(String[] args) throws Exception {
        String text = Files.readString(Path.of("src/main/java/UrnHeap.java"));
        JavacTask task = (JavacTask) JAVAC.getTask(null, null, null, null, null, List.of(new Source(text)));
        CompilationUnitTree unit = task.parse().iterator().next();
        Finder finder = new Finder(unit, Trees.instance(task).getSourcePositions(), text);
        finder.scan(unit, null);
        Path dir = Files.createTempDirectory("mutants");
        Path tests = Files.createDirectory(dir.resolve("tests"));
        for (String name : args) {
            JAVAC.run(null, null, null, "-d", tests.toString(), "src/main/java/UrnHeap.java", "src/test/java/" + name + ".java");
        }
        int cores = Runtime.getRuntime().availableProcessors();
        ExecutorService workers = Executors.newFixedThreadPool(cores);
        List<Future<String>> told = new ArrayList<>();
        for (Change change : finder.changes) {
            int number = told.size();
            told.add(workers.submit(() -> tryOne(text, change, dir.resolve("" + number), tests, args)));
        }
        int killed = 0;
        int left = 0;
        for (Future<String> one : told) {
            String what = one.get();
            killed += what.isEmpty() ? 1 : 0;
            if (what.length() > 1) {
                left++;
                System.out.println(what);
            }
        }
        workers.shutdown();
        System.out.println(killed + " found, " + left + " let pass");
    }

    /** Answers nothing if a test found it, "-" if it is no program, and otherwise what was changed. */
    private static String tryOne(String text, Change change, Path out, Path tests, String[] names) throws Exception {
        String broken = text.substring(0, (int) change.from) + change.by + text.substring((int) change.to);
        Files.createDirectory(out);
        JavacTask task = (JavacTask) JAVAC.getTask(new java.io.StringWriter(), null, found -> { }, List.of("-d", out.toString()), null,
                List.of(new Source(broken)));
        if (!task.call()) {
            return "-";
        }
        for (String name : names) {
            Process test = new ProcessBuilder("java", "-XX:TieredStopAtLevel=1", "-cp", out + File.pathSeparator + tests, name)
                    .redirectErrorStream(true).redirectOutput(ProcessBuilder.Redirect.DISCARD).start();
            if (!test.waitFor(60, TimeUnit.SECONDS)) {
                test.destroyForcibly();
                return "";
            }
            if (test.exitValue() != 0) {
                return "";
            }
        }
        long line = text.substring(0, (int) change.from).lines().count();
        String where = text.lines().skip(line - 1).findFirst().orElse("").trim();
        return line + ": " + where + "   [" + text.substring((int) change.from, (int) change.to) + "] -> [" + change.by + "]";
    }
}
