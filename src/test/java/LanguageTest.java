import com.sun.source.tree.*;
import com.sun.source.util.JavacTask;
import com.sun.source.util.TreePath;
import com.sun.source.util.TreePathScanner;
import com.sun.source.util.Trees;
import java.nio.file.Path;
import java.util.ArrayList;
import java.util.Arrays;
import java.util.HashMap;
import java.util.HashSet;
import java.util.List;
import java.util.Map;
import java.util.Set;
import java.util.TreeMap;
import java.util.TreeSet;
import javax.lang.model.element.Element;
import javax.lang.model.element.ElementKind;
import javax.lang.model.element.ExecutableElement;
import javax.lang.model.element.Modifier;
import javax.lang.model.element.TypeElement;
import javax.tools.JavaCompiler;
import javax.tools.StandardJavaFileManager;
import javax.tools.ToolProvider;

/** What LANGUAGE.md rules of the source that can be seen by its tree: kinds of code, sizes, depth of calls, library. */
public final class LanguageTest {
    private static final Set<String> FACE = new TreeSet<>(Arrays.asList("feed", "bills", "bill", "line", "check",
            "room", "price", "begin", "run", "machine", "given", "slip", "free", "ways", "reads", "needs", "plain",
            "fewest", "order", "asTold", "orders", "cheapest", "mark", "count"));
    private static final Set<String> LIBRARY = new HashSet<>(Arrays.asList(
            "java.lang.Object.<init>", "java.lang.System.arraycopy", "java.lang.Integer.bitCount",
            "java.lang.Integer.numberOfTrailingZeros", "java.lang.Math.max", "java.lang.Math.min",
            "java.lang.String.length", "java.lang.String.charAt", "java.util.NoSuchElementException.<init>"));
    private static final Set<Tree.Kind> RULED_OUT = new HashSet<>(Arrays.asList(
            Tree.Kind.LAMBDA_EXPRESSION, Tree.Kind.MEMBER_REFERENCE, Tree.Kind.TRY, Tree.Kind.CATCH,
            Tree.Kind.SYNCHRONIZED, Tree.Kind.ASSERT, Tree.Kind.SWITCH_EXPRESSION));

    private static int wrong = 0;
    private static int classes = 0;
    private static final Map<String, Set<String>> calls = new TreeMap<>();

    public static void main(String[] args) throws Exception {
        Path file = Path.of(args.length > 0 ? args[0] : "src/main/java/BurningSlips.java");
        JavaCompiler compiler = ToolProvider.getSystemJavaCompiler();
        StandardJavaFileManager files = compiler.getStandardFileManager(null, null, null);
        JavacTask task = (JavacTask) compiler.getTask(null, files, null, List.of("-proc:none"), null,
                files.getJavaFileObjects(file));
        Iterable<? extends CompilationUnitTree> units = task.parse();
        task.analyze();
        Trees trees = Trees.instance(task);
        for (CompilationUnitTree unit : units) {
            new Scan(trees, unit).scan(unit, null);
        }
        if (classes > 12) {
            blame("the file has " + classes + " classes");
        }
        for (String method : calls.keySet()) {
            int deep = deep(method, new ArrayList<>());
            if (deep > 8) {
                blame(method + " goes " + deep + " deep:" + chain(method));
            }
        }
        System.out.println("LanguageTest: " + (wrong == 0 ? "all is as ruled" : wrong + " things are not as ruled"));
        if (wrong != 0) {
            System.exit(1);
        }
    }

    private static void blame(String what) {
        wrong++;
        System.out.println(what);
    }

    private static final Map<String, Integer> depths = new HashMap<>();

    private static int deep(String method, List<String> open) {
        if (open.contains(method)) {
            blame("recursion: " + open + " " + method);
            return 0;
        }
        if (depths.containsKey(method)) {
            return depths.get(method);
        }
        open.add(method);
        int deepest = 0;
        for (String called : calls.getOrDefault(method, Set.of())) {
            deepest = Math.max(deepest, deep(called, open));
        }
        open.remove(method);
        depths.put(method, deepest + 1);
        return deepest + 1;
    }

    private static String chain(String method) {
        for (String called : calls.getOrDefault(method, Set.of())) {
            if (depths.get(called) == depths.get(method) - 1) {
                return " " + method + chain(called);
            }
        }
        return " " + method;
    }

    private static final class Scan extends TreePathScanner<Void, Void> {
        private final Trees trees;
        private final CompilationUnitTree unit;
        private String method = "";

        Scan(Trees trees, CompilationUnitTree unit) {
            this.trees = trees;
            this.unit = unit;
        }

        private long lineOf(long position) {
            return unit.getLineMap().getLineNumber(position);
        }

        private long start(Tree tree) {
            return lineOf(trees.getSourcePositions().getStartPosition(unit, tree));
        }

        private long stop(Tree tree) {
            return lineOf(trees.getSourcePositions().getEndPosition(unit, tree));
        }

        @Override
        public Void scan(Tree tree, Void none) {
            if (tree != null && RULED_OUT.contains(tree.getKind())) {
                blame("line " + start(tree) + ": " + tree.getKind());
            }
            return super.scan(tree, none);
        }

        @Override
        public Void visitClass(ClassTree tree, Void none) {
            classes++;
            int fields = 0;
            for (Tree member : tree.getMembers()) {
                boolean isField = member instanceof VariableTree;
                if (isField && !((VariableTree) member).getModifiers().getFlags().contains(Modifier.STATIC)) {
                    fields++;
                }
            }
            if (fields > 20) {
                blame("class " + tree.getSimpleName() + " has " + fields + " fields");
            }
            boolean isFace = tree.getSimpleName().contentEquals("BurningSlips");
            if (!isFace && !tree.getModifiers().getFlags().containsAll(List.of(Modifier.PRIVATE, Modifier.STATIC))) {
                blame("class " + tree.getSimpleName() + " is not private and static");
            }
            return super.visitClass(tree, none);
        }

        @Override
        public Void visitVariable(VariableTree tree, Void none) {
            Element element = trees.getElement(getCurrentPath());
            boolean isField = element.getKind() == ElementKind.FIELD;
            Set<Modifier> flags = element.getModifiers();
            if (isField && flags.contains(Modifier.STATIC) && !flags.contains(Modifier.FINAL)) {
                blame("line " + start(tree) + ": static state");
            }
            boolean isConstant = element.getSimpleName().contentEquals("NONE");
            boolean inFace = element.getEnclosingElement().getSimpleName().contentEquals("BurningSlips");
            if (isField && inFace && !isConstant && !flags.contains(Modifier.PRIVATE)) {
                blame("line " + start(tree) + ": a field of the face");
            }
            return super.visitVariable(tree, none);
        }

        @Override
        public Void visitMethod(MethodTree tree, Void none) {
            ExecutableElement element = (ExecutableElement) trees.getElement(getCurrentPath());
            String outer = method;
            method = nameOf(element);
            calls.computeIfAbsent(method, k -> new TreeSet<>());
            if (tree.getParameters().size() > 7) {
                blame(method + " takes too much");
            }
            if (stop(tree) - start(tree) >= 60) {
                blame(method + " is too long");
            }
            String name = tree.getName().toString();
            boolean isPublic = element.getModifiers().contains(Modifier.PUBLIC);
            if (FACE.contains(name) != isPublic && !name.equals("<init>")) {
                blame(method + " bears a public name or is public");
            }
            super.visitMethod(tree, none);
            method = outer;
            return null;
        }

        private String nameOf(ExecutableElement element) {
            return ((TypeElement) element.getEnclosingElement()).getQualifiedName() + "." + element;
        }

        private void called(TreePath path) {
            Element element = trees.getElement(path);
            if (!(element instanceof ExecutableElement)) {
                return;
            }
            String owner = ((TypeElement) element.getEnclosingElement()).getQualifiedName().toString();
            if (owner.startsWith("BurningSlips")) {
                calls.computeIfAbsent(method, k -> new TreeSet<>()).add(nameOf((ExecutableElement) element));
            } else if (!LIBRARY.contains(owner + "." + element.getSimpleName())) {
                blame(method + " calls " + owner + "." + element.getSimpleName());
            }
        }

        @Override
        public Void visitMethodInvocation(MethodInvocationTree tree, Void none) {
            called(new TreePath(getCurrentPath(), tree.getMethodSelect()));
            return super.visitMethodInvocation(tree, none);
        }

        @Override
        public Void visitNewClass(NewClassTree tree, Void none) {
            called(getCurrentPath());
            return super.visitNewClass(tree, none);
        }
    }
}
