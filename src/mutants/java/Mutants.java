import com.sun.source.tree.BinaryTree;
import com.sun.source.tree.CompilationUnitTree;
import com.sun.source.tree.ConditionalExpressionTree;
import com.sun.source.tree.ExpressionStatementTree;
import com.sun.source.tree.IdentifierTree;
import com.sun.source.tree.LiteralTree;
import com.sun.source.tree.MemberSelectTree;
import com.sun.source.tree.ReturnTree;
import com.sun.source.tree.Tree;
import com.sun.source.tree.UnaryTree;
import com.sun.source.util.JavacTask;
import com.sun.source.util.SourcePositions;
import com.sun.source.util.TreePathScanner;
import com.sun.source.util.Trees;
import java.io.ByteArrayOutputStream;
import java.io.IOException;
import java.io.OutputStream;
import java.io.PrintStream;
import java.io.Writer;
import java.lang.reflect.Method;
import java.net.URI;
import java.nio.file.Files;
import java.nio.file.Path;
import java.util.ArrayList;
import java.util.HashMap;
import java.util.List;
import java.util.Map;
import java.util.Set;
import java.util.TreeSet;
import java.util.concurrent.ConcurrentSkipListSet;
import java.util.concurrent.ExecutorService;
import java.util.concurrent.Executors;
import java.util.concurrent.Future;
import javax.tools.FileObject;
import javax.tools.ForwardingJavaFileManager;
import javax.tools.JavaCompiler;
import javax.tools.JavaFileManager;
import javax.tools.JavaFileObject;
import javax.tools.SimpleJavaFileObject;
import javax.tools.StandardJavaFileManager;
import javax.tools.ToolProvider;

/**
 * Breaks the class in thousands of small ways, one at a time, and prints each way that no test of an edge noticed.
 * What it prints must be alike in every answer, or needs a test. It is a tool to look at the tests with, and no test itself.
 */
public final class Mutants {
    private static final Path SOURCE = Path.of("src/main/java/BlockWave.java");
    private static final int WAITING = 6000;

    /** One small change of the source. */
    private record Mutant(long line, int from, int to, String old, String now) {
        String told() {
            return line + ": " + old.replaceAll("\\s+", " ") + "  =>  " + now.replaceAll("\\s+", " ");
        }
    }

    private Mutants() {
    }

    /** The directory of the compiled tests. */
    public static void main(String[] args) throws Exception {
        Path tests = Path.of(args[0]);
        String source = Files.readString(SOURCE);
        List<Mutant> mutants = mutants(source);
        PrintStream out = System.out;
        System.setOut(new PrintStream(OutputStream.nullOutputStream()));
        Set<String> everFailed = new ConcurrentSkipListSet<>();
        ExecutorService pool = Executors.newFixedThreadPool(Math.max(1, Runtime.getRuntime().availableProcessors() - 1));
        List<Future<String>> answers = new ArrayList<>();
        for (Mutant mutant : mutants) {
            answers.add(pool.submit(() -> tried(mutant, source, tests, everFailed)));
        }
        int lived = 0;
        for (Future<String> answer : answers) {
            if (!answer.get().isEmpty()) {
                lived++;
                out.println(answer.get());
            }
        }
        out.println(mutants.size() + " mutants, of " + lived + " no test of an edge noticed anything");
        Set<String> never = new TreeSet<>(names(new Loader(compiled(source), tests)));
        never.removeAll(everFailed);
        out.println("tests that never failed: " + never);
        System.exit(0);
    }

    /** What to print: nothing, if the mutant can't be compiled or a test failed. */
    private static String tried(Mutant mutant, String source, Path tests, Set<String> everFailed) throws Exception {
        Map<String, byte[]> classes = compiled(source.substring(0, mutant.from()) + mutant.now() + source.substring(mutant.to()));
        if (classes.isEmpty()) {
            return "";
        }
        List<String> failed = failing(new Loader(classes, tests));
        everFailed.addAll(failed);
        return failed.isEmpty() ? mutant.told() : "";
    }

    // ---- tests run on a mutant

    private static List<Method> methods(Loader loader) throws Exception {
        Method tests = loader.loadClass("EdgesTest").getDeclaredMethod("tests");
        tests.setAccessible(true);
        List<Method> methods = new ArrayList<>();
        for (Object one : (List<?>) tests.invoke(null)) {
            Method method = (Method) one;
            method.setAccessible(true);
            methods.add(method);
        }
        return methods;
    }

    private static List<String> names(Loader loader) throws Exception {
        return methods(loader).stream().map(Method::getName).toList();
    }

    private static List<String> failing(Loader loader) throws Exception {
        Method wrong = loader.loadClass("Due").getDeclaredMethod("wrong");
        wrong.setAccessible(true);
        List<String> failed = new ArrayList<>();
        for (Method test : methods(loader)) {
            int before = (int) wrong.invoke(null);
            boolean[] ended = new boolean[1];
            Thread thread = new Thread(() -> ended[0] = endsWell(test));
            thread.setDaemon(true);
            thread.start();
            thread.join(WAITING);
            if (!ended[0] || (int) wrong.invoke(null) > before) {
                failed.add(test.getName());
            }
            if (thread.isAlive()) {
                stop(thread);
                return failed;
            }
        }
        return failed;
    }

    private static boolean endsWell(Method test) {
        try {
            test.invoke(null);
            return true;
        } catch (ReflectiveOperationException e) {
            return false;
        }
    }

    /** A mutant that never ends can't be asked to. */
    @SuppressWarnings({"removal", "deprecation"})
    private static void stop(Thread thread) {
        thread.stop();
    }

    /** The tests anew for each mutant, as they count what is wrong in static fields. */
    private static final class Loader extends ClassLoader {
        private final Map<String, byte[]> classes;
        private final Path tests;

        Loader(Map<String, byte[]> classes, Path tests) {
            super(ClassLoader.getPlatformClassLoader());
            this.classes = classes;
            this.tests = tests;
        }

        @Override
        protected Class<?> findClass(String name) throws ClassNotFoundException {
            try {
                byte[] bytes = classes.containsKey(name) ? classes.get(name) : Files.readAllBytes(tests.resolve(name + ".class"));
                return defineClass(name, bytes, 0, bytes.length);
            } catch (IOException e) {
                throw new ClassNotFoundException(name, e);
            }
        }
    }

    // ---- compiling

    private static final class InMemory extends SimpleJavaFileObject {
        final ByteArrayOutputStream bytes = new ByteArrayOutputStream();
        private final String text;

        InMemory(String name, Kind kind, String text) {
            super(URI.create("memory:///" + name + kind.extension), kind);
            this.text = text;
        }

        @Override
        public CharSequence getCharContent(boolean ignored) {
            return text;
        }

        @Override
        public OutputStream openOutputStream() {
            return bytes;
        }
    }

    /** Classes by their names; none, if it isn't Java. */
    private static Map<String, byte[]> compiled(String text) throws IOException {
        JavaCompiler compiler = ToolProvider.getSystemJavaCompiler();
        Map<String, InMemory> made = new HashMap<>();
        try (StandardJavaFileManager standard = compiler.getStandardFileManager(null, null, null)) {
            JavaFileManager files = new ForwardingJavaFileManager<JavaFileManager>(standard) {
                @Override
                public JavaFileObject getJavaFileForOutput(Location location, String name, JavaFileObject.Kind kind, FileObject sibling) {
                    made.put(name, new InMemory(name, kind, ""));
                    return made.get(name);
                }
            };
            InMemory source = new InMemory("BlockWave", JavaFileObject.Kind.SOURCE, text);
            boolean good = compiler.getTask(Writer.nullWriter(), files, ignored -> { }, List.of("-proc:none"), null, List.of(source)).call();
            Map<String, byte[]> classes = new HashMap<>();
            made.forEach((name, one) -> classes.put(name, one.bytes.toByteArray()));
            return good ? classes : Map.of();
        }
    }

    // ---- mutants found

    private static List<Mutant> mutants(String source) throws IOException {
        JavaCompiler compiler = ToolProvider.getSystemJavaCompiler();
        StandardJavaFileManager files = compiler.getStandardFileManager(null, null, null);
        JavacTask task = (JavacTask) compiler.getTask(null, files, null, List.of("-proc:none"), null, files.getJavaFileObjects(SOURCE));
        CompilationUnitTree unit = task.parse().iterator().next();
        Finder finder = new Finder(unit, Trees.instance(task).getSourcePositions(), source);
        finder.scan(unit, null);
        return finder.found;
    }

    private static final class Finder extends TreePathScanner<Void, Void> {
        private static final Map<Tree.Kind, List<String>> OTHER_SIGNS = Map.ofEntries(
                Map.entry(Tree.Kind.LESS_THAN, List.of("<=", ">", "!=")), Map.entry(Tree.Kind.LESS_THAN_EQUAL, List.of("<", ">")),
                Map.entry(Tree.Kind.GREATER_THAN, List.of(">=", "<")), Map.entry(Tree.Kind.GREATER_THAN_EQUAL, List.of(">", "<")),
                Map.entry(Tree.Kind.EQUAL_TO, List.of("!=")), Map.entry(Tree.Kind.NOT_EQUAL_TO, List.of("==")),
                Map.entry(Tree.Kind.CONDITIONAL_AND, List.of("||")), Map.entry(Tree.Kind.CONDITIONAL_OR, List.of("&&")),
                Map.entry(Tree.Kind.PLUS, List.of("-")), Map.entry(Tree.Kind.MINUS, List.of("+")), Map.entry(Tree.Kind.MULTIPLY, List.of("+")),
                Map.entry(Tree.Kind.AND, List.of("|")), Map.entry(Tree.Kind.OR, List.of("&")), Map.entry(Tree.Kind.LEFT_SHIFT, List.of(">>")),
                Map.entry(Tree.Kind.RIGHT_SHIFT, List.of("<<", ">>>")), Map.entry(Tree.Kind.UNSIGNED_RIGHT_SHIFT, List.of(">>")));
        private static final Set<Tree.Kind> ANSWERS_YES_OR_NO = Set.of(Tree.Kind.LESS_THAN, Tree.Kind.LESS_THAN_EQUAL, Tree.Kind.GREATER_THAN,
                Tree.Kind.GREATER_THAN_EQUAL, Tree.Kind.EQUAL_TO, Tree.Kind.NOT_EQUAL_TO, Tree.Kind.CONDITIONAL_AND, Tree.Kind.CONDITIONAL_OR);
        private static final Map<String, List<String>> OTHER_NAMES = Map.of("re", List.of("im", "wasRe"), "im", List.of("re", "wasIm"),
                "wasRe", List.of("wasIm", "re"), "wasIm", List.of("wasRe", "im"), "cos", List.of("sin"), "sin", List.of("cos"),
                "max", List.of("min"), "min", List.of("max"));

        final List<Mutant> found = new ArrayList<>();
        private final CompilationUnitTree unit;
        private final SourcePositions at;
        private final String source;

        Finder(CompilationUnitTree unit, SourcePositions at, String source) {
            this.unit = unit;
            this.at = at;
            this.source = source;
        }

        private String text(Tree tree) {
            return source.substring((int) at.getStartPosition(unit, tree), (int) at.getEndPosition(unit, tree));
        }

        private void add(Tree tree, String now) {
            int from = (int) at.getStartPosition(unit, tree);
            found.add(new Mutant(unit.getLineMap().getLineNumber(from), from, (int) at.getEndPosition(unit, tree), text(tree), now));
        }

        @Override
        public Void visitBinary(BinaryTree node, Void nothing) {
            String left = text(node.getLeftOperand());
            String right = text(node.getRightOperand());
            for (String sign : OTHER_SIGNS.getOrDefault(node.getKind(), List.of())) {
                add(node, "(" + left + " " + sign + " " + right + ")");
            }
            if (ANSWERS_YES_OR_NO.contains(node.getKind())) {
                add(node, "(true)");
                add(node, "(false)");
            }
            // Of numbers, or of two conditions, one alone; where it can't be, it won't compile.
            add(node, "(" + left + ")");
            add(node, "(" + right + ")");
            return super.visitBinary(node, nothing);
        }

        @Override
        public Void visitLiteral(LiteralTree node, Void nothing) {
            if (node.getValue() instanceof Integer number) {
                add(node, "(" + (number + 1) + ")");
                add(node, "(" + (number - 1) + ")");
            } else if (node.getValue() instanceof Boolean answer) {
                add(node, answer ? "false" : "true");
            }
            return super.visitLiteral(node, nothing);
        }

        @Override
        public Void visitUnary(UnaryTree node, Void nothing) {
            boolean turns = Set.of(Tree.Kind.LOGICAL_COMPLEMENT, Tree.Kind.UNARY_MINUS, Tree.Kind.BITWISE_COMPLEMENT).contains(node.getKind());
            if (turns) {
                add(node, "(" + text(node.getExpression()) + ")");
            }
            return super.visitUnary(node, nothing);
        }

        @Override
        public Void visitConditionalExpression(ConditionalExpressionTree node, Void nothing) {
            add(node, "(" + text(node.getTrueExpression()) + ")");
            add(node, "(" + text(node.getFalseExpression()) + ")");
            return super.visitConditionalExpression(node, nothing);
        }

        @Override
        public Void visitExpressionStatement(ExpressionStatementTree node, Void nothing) {
            if (getCurrentPath().getParentPath().getLeaf().getKind() != Tree.Kind.FOR_LOOP) {
                add(node, ";");
            }
            return super.visitExpressionStatement(node, nothing);
        }

        @Override
        public Void visitReturn(ReturnTree node, Void nothing) {
            if (node.getExpression() != null && text(node.getExpression()).matches("NONE|NOT_NOW")) {
                add(node, text(node.getExpression()).equals("NONE") ? "return NOT_NOW;" : "return NONE;");
            }
            return super.visitReturn(node, nothing);
        }

        @Override
        public Void visitIdentifier(IdentifierTree node, Void nothing) {
            String name = node.getName().toString();
            if (name.matches("[A-Z][A-Z_]+")) {
                add(node, "(" + name + " + 1)");
                add(node, "(" + name + " - 1)");
            }
            for (String other : OTHER_NAMES.getOrDefault(name, List.of())) {
                add(node, other);
            }
            return super.visitIdentifier(node, nothing);
        }

        @Override
        public Void visitMemberSelect(MemberSelectTree node, Void nothing) {
            for (String other : OTHER_NAMES.getOrDefault(node.getIdentifier().toString(), List.of())) {
                add(node, text(node.getExpression()) + "." + other);
            }
            return super.visitMemberSelect(node, nothing);
        }
    }
}
