import com.sun.source.tree.AssertTree;
import com.sun.source.tree.BinaryTree;
import com.sun.source.tree.ClassTree;
import com.sun.source.tree.CompilationUnitTree;
import com.sun.source.tree.ImportTree;
import com.sun.source.tree.LambdaExpressionTree;
import com.sun.source.tree.MemberReferenceTree;
import com.sun.source.tree.MethodInvocationTree;
import com.sun.source.tree.MethodTree;
import com.sun.source.tree.NewClassTree;
import com.sun.source.tree.SynchronizedTree;
import com.sun.source.tree.Tree;
import com.sun.source.tree.TryTree;
import com.sun.source.tree.VariableTree;
import com.sun.source.util.JavacTask;
import com.sun.source.util.SourcePositions;
import com.sun.source.util.TreePathScanner;
import com.sun.source.util.Trees;
import java.lang.reflect.Constructor;
import java.lang.reflect.Field;
import java.lang.reflect.Method;
import java.lang.reflect.Modifier;
import java.nio.file.Files;
import java.nio.file.Path;
import java.util.HashMap;
import java.util.HashSet;
import java.util.LinkedHashSet;
import java.util.List;
import java.util.Map;
import java.util.Set;
import java.util.TreeSet;
import javax.lang.model.element.Element;
import javax.lang.model.element.TypeElement;
import javax.tools.JavaCompiler;
import javax.tools.StandardJavaFileManager;
import javax.tools.ToolProvider;

/** The face is the document's, and the source keeps to those rules of LANGUAGE.md that a program can see. */
public final class RulesTest {
    private static final Path SOURCE = Path.of("src/main/java/BlockWave.java");
    private static final Path DOCUMENT = Path.of("../shared/DOC.md");
    private static final Set<String> LIBRARY = Set.of("Math.max", "Math.min", "Math.abs", "Math.floorMod", "Math.floorDiv",
            "Integer.bitCount", "System.arraycopy", "String.charAt", "String.length");
    private static final Set<String> THROWN = Set.of("IndexOutOfBoundsException", "NoSuchElementException");

    private RulesTest() {
    }

    public static void main(String[] args) throws Exception {
        face();
        source();
        Due.end("RulesTest");
    }

    // ---- the face

    private static void face() throws Exception {
        Set<String> due = new TreeSet<>();
        for (String line : Files.readAllLines(DOCUMENT)) {
            String face = line.strip();
            if (line.startsWith("    public ") && face.endsWith(";") && !face.contains("=")) {
                due.add(face.replaceAll(" throws .*", ";").replaceAll("(\\w+) \\w+([,)])", "$1$2"));
            }
        }
        Set<String> got = new TreeSet<>();
        for (Constructor<?> made : BlockWave.class.getDeclaredConstructors()) {
            got.add(Modifier.toString(made.getModifiers()) + " BlockWave();");
        }
        for (Method method : BlockWave.class.getDeclaredMethods()) {
            if (!Modifier.isPrivate(method.getModifiers())) {
                got.add(signature(method));
            }
        }
        Due.is("the constructor and methods of the document", due.size(), 57);
        for (String one : due) {
            Due.yes("the face has " + one, got.contains(one));
        }
        for (String one : got) {
            Due.yes("the document has " + one, due.contains(one));
        }
        for (Field field : BlockWave.class.getDeclaredFields()) {
            Due.yes("field " + field.getName(), field.getName().equals("NONE") || Modifier.isPrivate(field.getModifiers()));
        }
        Due.is("public final", BlockWave.class.getModifiers(), Modifier.PUBLIC | Modifier.FINAL);
        Method point = BlockWave.class.getMethod("point", int.class, int.class);
        Due.is("what point throws", point.getExceptionTypes().length, 2);
    }

    private static String signature(Method method) {
        StringBuilder text = new StringBuilder(Modifier.toString(method.getModifiers()));
        text.append(' ').append(method.getReturnType().getSimpleName()).append(' ').append(method.getName()).append('(');
        for (Class<?> type : method.getParameterTypes()) {
            text.append(text.charAt(text.length() - 1) == '(' ? "" : ", ").append(type.getSimpleName());
        }
        return text.append(");").toString();
    }

    // ---- the source

    private static void source() throws Exception {
        JavaCompiler compiler = ToolProvider.getSystemJavaCompiler();
        StandardJavaFileManager files = compiler.getStandardFileManager(null, null, null);
        JavacTask task = (JavacTask) compiler.getTask(null, files, null, List.of("-proc:none"), null, files.getJavaFileObjects(SOURCE));
        CompilationUnitTree unit = task.parse().iterator().next();
        task.analyze();
        Scanner scanner = new Scanner(unit, Trees.instance(task));
        scanner.scan(unit, null);
        Due.yes("at most twelve classes: " + scanner.classes, scanner.classes <= 12);
        for (Element method : scanner.calls.keySet()) {
            int deep = scanner.depth(method, new LinkedHashSet<>());
            Due.yes(method + " goes at most eight deep: " + deep, deep <= 8);
        }
        for (String line : Files.readAllLines(SOURCE)) {
            Due.yes("signs 1 to 127: " + line, line.chars().allMatch(sign -> sign < 128));
        }
    }

    private static final class Scanner extends TreePathScanner<Void, Void> {
        final Map<Element, Set<Element>> calls = new HashMap<>();
        int classes = 0;
        private final CompilationUnitTree unit;
        private final Trees trees;
        private Element method = null;
        private final Set<String> faceNames = new HashSet<>();

        Scanner(CompilationUnitTree unit, Trees trees) {
            this.unit = unit;
            this.trees = trees;
            for (Method one : BlockWave.class.getMethods()) {
                faceNames.add(one.getName());
            }
        }

        /** Levels of calls within the file; a library call is one, too. */
        int depth(Element from, Set<Element> open) {
            if (!open.add(from)) {
                Due.yes("no recursion: " + open, false);
                return 99;
            }
            int most = 0;
            for (Element to : calls.getOrDefault(from, Set.of())) {
                most = Math.max(most, depth(to, open));
            }
            open.remove(from);
            return most + 1;
        }

        private long line(long position) {
            return unit.getLineMap().getLineNumber(position);
        }

        @Override
        public Void visitImport(ImportTree node, Void nothing) {
            Due.yes("import " + node, node.getQualifiedIdentifier().toString().equals("java.util.NoSuchElementException"));
            return super.visitImport(node, nothing);
        }

        @Override
        public Void visitClass(ClassTree node, Void nothing) {
            classes++;
            int fields = 0;
            boolean inside = classes > 1;
            for (Tree member : node.getMembers()) {
                if (member.getKind() == Tree.Kind.BLOCK) {
                    Due.yes("no initialiser block in " + node.getSimpleName(), false);
                }
                if (member instanceof VariableTree field) {
                    String flags = field.getModifiers().getFlags().toString();
                    fields += flags.contains("static") ? 0 : 1;
                    Due.yes("static is final: " + field, !flags.contains("static") || flags.contains("final"));
                }
            }
            Due.yes("at most twenty fields: " + node.getSimpleName() + " " + fields, fields <= 20);
            Due.yes("inside: static", !inside || node.getModifiers().getFlags().toString().contains("static"));
            return super.visitClass(node, nothing);
        }

        @Override
        public Void visitMethod(MethodTree node, Void nothing) {
            Element before = method;
            method = trees.getElement(getCurrentPath());
            calls.putIfAbsent(method, new HashSet<>());
            SourcePositions at = trees.getSourcePositions();
            long lines = line(at.getEndPosition(unit, node)) - line(at.getStartPosition(unit, node)) + 1;
            Due.yes(method + " has at most sixty lines: " + lines, lines <= 60);
            Due.yes(method + " takes at most seven", node.getParameters().size() <= 7);
            boolean open = node.getModifiers().getFlags().toString().contains("public");
            boolean named = faceNames.contains(node.getName().toString());
            Due.yes("only the face bears its names: " + method, open || !named);
            super.visitMethod(node, nothing);
            method = before;
            return null;
        }

        @Override
        public Void visitMethodInvocation(MethodInvocationTree node, Void nothing) {
            Element called = trees.getElement(getCurrentPath());
            Element owner = called.getEnclosingElement();
            boolean own = ((TypeElement) owner).getQualifiedName().toString().startsWith("BlockWave");
            if (!own && !called.getSimpleName().contentEquals("<init>")) {
                String name = owner.getSimpleName() + "." + called.getSimpleName();
                Due.yes("the library has " + name, LIBRARY.contains(name));
            }
            if (method != null) {
                calls.get(method).add(called);
            }
            return super.visitMethodInvocation(node, nothing);
        }

        @Override
        public Void visitNewClass(NewClassTree node, Void nothing) {
            Element called = trees.getElement(getCurrentPath());
            String name = called.getEnclosingElement().getSimpleName().toString();
            if (method != null) {
                Due.yes("no objects but exceptions are made by calls: " + name, THROWN.contains(name));
                calls.get(method).add(called);
            }
            return super.visitNewClass(node, nothing);
        }

        @Override
        public Void visitBinary(BinaryTree node, Void nothing) {
            boolean divides = node.getKind() == Tree.Kind.DIVIDE || node.getKind() == Tree.Kind.REMAINDER;
            Due.yes("a divisor that is never 0: " + node, !divides || node.getRightOperand().toString().matches("RING|[1-9]\\d*"));
            return super.visitBinary(node, nothing);
        }

        @Override
        public Void visitLambdaExpression(LambdaExpressionTree node, Void nothing) {
            Due.yes("no lambda: " + node, false);
            return null;
        }

        @Override
        public Void visitMemberReference(MemberReferenceTree node, Void nothing) {
            Due.yes("no method reference: " + node, false);
            return null;
        }

        @Override
        public Void visitTry(TryTree node, Void nothing) {
            Due.yes("nothing is caught", false);
            return null;
        }

        @Override
        public Void visitSynchronized(SynchronizedTree node, Void nothing) {
            Due.yes("no synchronized", false);
            return null;
        }

        @Override
        public Void visitAssert(AssertTree node, Void nothing) {
            Due.yes("no assert", false);
            return null;
        }
    }
}
