import com.sun.source.tree.BinaryTree;
import com.sun.source.tree.CompilationUnitTree;
import com.sun.source.tree.ConditionalExpressionTree;
import com.sun.source.tree.ExpressionStatementTree;
import com.sun.source.tree.IfTree;
import com.sun.source.tree.LiteralTree;
import com.sun.source.tree.Tree;
import com.sun.source.tree.UnaryTree;
import com.sun.source.util.JavacTask;
import com.sun.source.util.SourcePositions;
import com.sun.source.util.TreeScanner;
import com.sun.source.util.Trees;
import java.io.IOException;
import java.io.StringWriter;
import java.nio.file.Files;
import java.nio.file.Path;
import java.util.ArrayList;
import java.util.Arrays;
import java.util.Collections;
import java.util.List;
import java.util.concurrent.ExecutorService;
import java.util.concurrent.Executors;
import java.util.concurrent.TimeUnit;
import java.util.concurrent.atomic.AtomicInteger;
import javax.tools.JavaCompiler;
import javax.tools.StandardJavaFileManager;
import javax.tools.ToolProvider;

/**
 * By hand, not of .ci/run: breaks the class in one place at a time and tells which breaks the tests named do not see.
 * Its arguments: where the compiled tests are (without BurningSlips), and the tests' names.
 */
public final class Mutants {
    private static final Path SOURCE = Path.of("src/main/java/BurningSlips.java");
    private static final int MOST_SECONDS = 20;

    private final String text;
    private final List<String> tests;
    private final String testClasses;
    private final Path work;
    private final List<Break> breaks = new ArrayList<>();
    private final List<String> unseen = Collections.synchronizedList(new ArrayList<>());
    private final AtomicInteger notCompiled = new AtomicInteger();

    private record Break(int from, int to, String with, String what) {
    }

    private Mutants(String testClasses, List<String> tests) throws IOException {
        this.testClasses = testClasses;
        this.tests = tests;
        text = Files.readString(SOURCE);
        work = Files.createTempDirectory("mutants");
    }

    public static void main(String[] args) throws Exception {
        Mutants mutants = new Mutants(args[0], Arrays.asList(args).subList(1, args.length));
        mutants.findBreaks();
        mutants.tryAll();
    }

    private void findBreaks() throws IOException {
        JavaCompiler compiler = ToolProvider.getSystemJavaCompiler();
        StandardJavaFileManager files = compiler.getStandardFileManager(null, null, null);
        JavacTask task = (JavacTask) compiler.getTask(null, files, null, List.of("-proc:none"), null,
                files.getJavaFileObjects(SOURCE));
        CompilationUnitTree unit = task.parse().iterator().next();
        new Finder(unit, Trees.instance(task).getSourcePositions()).scan(unit, null);
    }

    private void tryAll() throws InterruptedException {
        ExecutorService pool = Executors.newFixedThreadPool(Runtime.getRuntime().availableProcessors());
        for (int k = 0; k < breaks.size(); k++) {
            int number = k;
            pool.execute(() -> tryOne(number));
        }
        pool.shutdown();
        pool.awaitTermination(1, TimeUnit.DAYS);
        Collections.sort(unseen);
        unseen.forEach(System.out::println);
        System.out.println(breaks.size() + " breaks, " + notCompiled + " do not compile, " + unseen.size() + " are not seen");
    }

    private void tryOne(int number) {
        Break one = breaks.get(number);
        try {
            Path dir = Files.createDirectory(work.resolve("" + number));
            Path source = dir.resolve("BurningSlips.java");
            Files.writeString(source, text.substring(0, one.from) + one.with + text.substring(one.to));
            if (!compiles(source, dir)) {
                notCompiled.incrementAndGet();
            } else if (!isSeen(dir)) {
                unseen.add(String.format("%05d %s", one.from, one.what));
            }
        } catch (IOException | InterruptedException failed) {
            unseen.add("not tried: " + one.what + ", " + failed);
        }
    }

    private static boolean compiles(Path source, Path dir) throws IOException {
        JavaCompiler compiler = ToolProvider.getSystemJavaCompiler();
        try (StandardJavaFileManager files = compiler.getStandardFileManager(null, null, null)) {
            return compiler.getTask(new StringWriter(), files, told -> { }, List.of("-proc:none", "-d", dir.toString()), null,
                    files.getJavaFileObjects(source)).call();
        }
    }

    private boolean isSeen(Path dir) throws IOException, InterruptedException {
        for (String test : tests) {
            Process run = new ProcessBuilder("java", "-XX:TieredStopAtLevel=1", "-XX:+UseSerialGC", "-cp",
                    dir + ":" + testClasses, test).redirectErrorStream(true)
                    .redirectOutput(ProcessBuilder.Redirect.DISCARD).start();
            // A break that makes a loop endless is seen as well.
            boolean ended = run.waitFor(MOST_SECONDS, TimeUnit.SECONDS);
            if (!ended) {
                run.destroyForcibly();
            }
            if (!ended || run.exitValue() != 0) {
                return true;
            }
        }
        return false;
    }

    private final class Finder extends TreeScanner<Void, Void> {
        private final CompilationUnitTree unit;
        private final SourcePositions positions;

        Finder(CompilationUnitTree unit, SourcePositions positions) {
            this.unit = unit;
            this.positions = positions;
        }

        private String told(Tree tree) {
            return text.substring(from(tree), (int) positions.getEndPosition(unit, tree));
        }

        private int from(Tree tree) {
            return (int) positions.getStartPosition(unit, tree);
        }

        private void replace(Tree tree, String with) {
            String told = told(tree);
            String what = "line " + unit.getLineMap().getLineNumber(from(tree)) + ": " + told + " by " + with;
            breaks.add(new Break(from(tree), from(tree) + told.length(), with, what.replaceAll("\\s+", " ")));
        }

        private void decide(Tree condition) {
            replace(condition, "(true || (" + told(condition) + "))");
            replace(condition, "(false && (" + told(condition) + "))");
        }

        @Override
        public Void visitBinary(BinaryTree tree, Void none) {
            for (String sign : others(tree.getKind())) {
                replace(tree, told(tree.getLeftOperand()) + " " + sign + " " + told(tree.getRightOperand()));
            }
            return super.visitBinary(tree, none);
        }

        private String[] others(Tree.Kind kind) {
            switch (kind) {
                case LESS_THAN: return new String[] {"<=", ">="};
                case LESS_THAN_EQUAL: return new String[] {"<", ">"};
                case GREATER_THAN: return new String[] {">=", "<="};
                case GREATER_THAN_EQUAL: return new String[] {">", "<"};
                case EQUAL_TO: return new String[] {"!="};
                case NOT_EQUAL_TO: return new String[] {"=="};
                case CONDITIONAL_AND: return new String[] {"||"};
                case CONDITIONAL_OR: return new String[] {"&&"};
                case PLUS: return new String[] {"-"};
                case MINUS: return new String[] {"+"};
                case MULTIPLY: return new String[] {"+"};
                case AND: return new String[] {"|"};
                case OR: return new String[] {"&"};
                case XOR: return new String[] {"|"};
                default: return new String[0];
            }
        }

        @Override
        public Void visitLiteral(LiteralTree tree, Void none) {
            Object value = tree.getValue();
            if (value instanceof Integer) {
                replace(tree, "(" + ((Integer) value + 1) + ")");
                replace(tree, "(" + ((Integer) value - 1) + ")");
            } else if (value instanceof Boolean) {
                replace(tree, (Boolean) value ? "false" : "true");
            } else if (value instanceof Character) {
                replace(tree, "(char) " + ((Character) value + 1));
                replace(tree, "(char) " + ((Character) value - 1));
            }
            return null;
        }

        @Override
        public Void visitExpressionStatement(ExpressionStatementTree tree, Void none) {
            replace(tree, ";");
            return super.visitExpressionStatement(tree, none);
        }

        @Override
        public Void visitIf(IfTree tree, Void none) {
            replace(tree.getCondition(), "(true || " + told(tree.getCondition()) + ")");
            replace(tree.getCondition(), "(false && " + told(tree.getCondition()) + ")");
            return super.visitIf(tree, none);
        }

        @Override
        public Void visitConditionalExpression(ConditionalExpressionTree tree, Void none) {
            decide(tree.getCondition());
            return super.visitConditionalExpression(tree, none);
        }

        @Override
        public Void visitUnary(UnaryTree tree, Void none) {
            boolean isSign = tree.getKind() == Tree.Kind.UNARY_MINUS || tree.getKind() == Tree.Kind.BITWISE_COMPLEMENT
                    || tree.getKind() == Tree.Kind.LOGICAL_COMPLEMENT;
            if (isSign) {
                replace(tree, "(" + told(tree.getExpression()) + ")");
            }
            return super.visitUnary(tree, none);
        }
    }
}
