import com.sun.source.tree.AssertTree;
import com.sun.source.tree.BinaryTree;
import com.sun.source.tree.CatchTree;
import com.sun.source.tree.ClassTree;
import com.sun.source.tree.CompilationUnitTree;
import com.sun.source.tree.ImportTree;
import com.sun.source.tree.LambdaExpressionTree;
import com.sun.source.tree.LiteralTree;
import com.sun.source.tree.MemberReferenceTree;
import com.sun.source.tree.MethodInvocationTree;
import com.sun.source.tree.MethodTree;
import com.sun.source.tree.NewClassTree;
import com.sun.source.tree.SynchronizedTree;
import com.sun.source.tree.ThrowTree;
import com.sun.source.tree.Tree;
import com.sun.source.tree.TryTree;
import com.sun.source.tree.VariableTree;
import com.sun.source.util.JavacTask;
import com.sun.source.util.SourcePositions;
import com.sun.source.util.TreePath;
import com.sun.source.util.TreePathScanner;
import com.sun.source.util.Trees;
import java.lang.reflect.Constructor;
import java.lang.reflect.Field;
import java.lang.reflect.Method;
import java.lang.reflect.Modifier;
import java.nio.file.Files;
import java.nio.file.Path;
import java.util.HashMap;
import java.util.HashSet;
import java.util.LinkedHashSet;
import java.util.List;
import java.util.Map;
import java.util.Set;
import java.util.TreeSet;
import javax.lang.model.element.Element;
import javax.lang.model.element.ExecutableElement;
import javax.lang.model.element.TypeElement;
import javax.tools.JavaCompiler;
import javax.tools.StandardJavaFileManager;
import javax.tools.ToolProvider;

/** The face is the document's, and the source keeps to those rules of LANGUAGE.md that a program can see, and to no others. */
public final class RulesTest {
    private static final Path SOURCE = Path.of("src/main/java/BlockWave.java");
    private static final Path DOCUMENT = Path.of("../shared/DOC.md");
    private static final Set<String> IMPORTS = Set.of("java.util.ArrayList", "java.util.List", "java.util.Arrays", "java.util.Iterator",
            "java.util.NoSuchElementException");
    private static final Set<String> LIBRARY = Set.of("String.length", "String.charAt", "String.isEmpty", "String.equals", "String.indexOf",
            "String.substring", "String.toCharArray", "StringBuilder.append", "StringBuilder.charAt", "StringBuilder.setCharAt",
            "StringBuilder.setLength", "StringBuilder.deleteCharAt", "StringBuilder.reverse", "StringBuilder.length", "StringBuilder.toString",
            "AbstractStringBuilder.charAt", "AbstractStringBuilder.setCharAt", "AbstractStringBuilder.setLength",
            "AbstractStringBuilder.length", "ArrayList.add", "ArrayList.get", "ArrayList.set", "ArrayList.remove", "ArrayList.size",
            "ArrayList.isEmpty", "ArrayList.clear", "List.add", "List.get", "List.set", "List.remove", "List.size", "List.isEmpty",
            "List.clear", "List.of", "System.arraycopy", "Arrays.copyOf", "Arrays.copyOfRange", "Arrays.fill", "Array.clone", "Object.clone",
            "Iterator.next", "Iterator.hasNext", "Integer.intValue", "Enum.ordinal");
    private static final Set<String> THROWN = Set.of("IllegalStateException", "IllegalArgumentException", "IndexOutOfBoundsException",
            "ArithmeticException", "UnsupportedOperationException", "NoSuchElementException", "RuntimeException");

    private RulesTest() {
    }

    public static void main(String[] args) throws Exception {
        face();
        source();
        Due.end("RulesTest");
    }

    // ---- the face

    private static void face() throws Exception {
        Set<String> due = new TreeSet<>();
        for (String line : Files.readAllLines(DOCUMENT)) {
            String face = line.strip();
            if (line.startsWith("    public ") && face.endsWith(";") && !face.contains("=")) {
                int end = face.indexOf(')');
                due.add(face.substring(0, end + 1).replaceAll("(\\w+) \\w+([,)])", "$1$2") + face.substring(end + 1));
            }
        }
        Set<String> got = new TreeSet<>();
        for (Constructor<?> made : BlockWave.class.getDeclaredConstructors()) {
            got.add(Modifier.toString(made.getModifiers()) + " BlockWave();");
        }
        for (Method method : BlockWave.class.getDeclaredMethods()) {
            if (!Modifier.isPrivate(method.getModifiers()) && !method.isSynthetic()) {
                got.add(signature(method));
            }
        }
        Due.is("the constructor and methods of the document", due.size(), 57);
        for (String one : due) {
            Due.yes("the face has " + one, got.contains(one));
        }
        for (String one : got) {
            Due.yes("the document has " + one, due.contains(one));
        }
        for (Field field : BlockWave.class.getDeclaredFields()) {
            Due.yes("field " + field.getName(), field.getName().equals("NONE") || Modifier.isPrivate(field.getModifiers()) || field.isSynthetic());
        }
        Field none = BlockWave.class.getDeclaredField("NONE");
        Due.is("NONE is public static final", none.getModifiers(), Modifier.PUBLIC | Modifier.STATIC | Modifier.FINAL);
        Due.is("public final", BlockWave.class.getModifiers(), Modifier.PUBLIC | Modifier.FINAL);
    }

    private static String signature(Method method) {
        StringBuilder text = new StringBuilder(Modifier.toString(method.getModifiers()));
        text.append(' ').append(method.getReturnType().getSimpleName()).append(' ').append(method.getName()).append('(');
        for (Class<?> type : method.getParameterTypes()) {
            text.append(text.charAt(text.length() - 1) == '(' ? "" : ", ").append(type.getSimpleName());
        }
        text.append(')');
        for (Class<?> type : method.getExceptionTypes()) {
            text.append(text.indexOf(" throws ") < 0 ? " throws " : ", ").append(type.getSimpleName());
        }
        return text.append(';').toString();
    }

    // ---- the source

    private static void source() throws Exception {
        JavaCompiler compiler = ToolProvider.getSystemJavaCompiler();
        StandardJavaFileManager files = compiler.getStandardFileManager(null, null, null);
        JavacTask task = (JavacTask) compiler.getTask(null, files, null, List.of("-proc:none"), null, files.getJavaFileObjects(SOURCE));
        CompilationUnitTree unit = task.parse().iterator().next();
        task.analyze();
        Scanner scanner = new Scanner(unit, Trees.instance(task));
        scanner.scan(unit, null);
        // "Some twelve", "some sixty", "some twenty": a few more are some, too.
        Due.yes("rule 11, some twelve classes: " + scanner.classes, scanner.classes <= 14);
        for (Element method : scanner.calls.keySet()) {
            int deep = scanner.depth(method, new LinkedHashSet<>());
            Due.yes("rule 11, " + method + " goes at most eight deep: " + deep, deep <= 8);
        }
    }

    private static final class Scanner extends TreePathScanner<Void, Void> {
        final Map<Element, Set<Element>> calls = new HashMap<>();
        int classes = 0;
        private final CompilationUnitTree unit;
        private final Trees trees;
        private Element method = null;
        private final Set<String> faceNames = new HashSet<>();

        Scanner(CompilationUnitTree unit, Trees trees) {
            this.unit = unit;
            this.trees = trees;
            for (Method one : BlockWave.class.getMethods()) {
                faceNames.add(one.getName());
            }
        }

        /** Levels of calls within the file, a library call being one, too; a call of itself is recursion and no level. */
        int depth(Element from, Set<Element> open) {
            open.add(from);
            int most = 0;
            for (Element to : calls.getOrDefault(from, Set.of())) {
                if (!open.contains(to)) {
                    most = Math.max(most, depth(to, open));
                }
            }
            open.remove(from);
            return most + 1;
        }

        private long line(long position) {
            return unit.getLineMap().getLineNumber(position);
        }

        @Override
        public Void visitImport(ImportTree node, Void nothing) {
            Due.yes("rule 4, " + node, IMPORTS.contains(node.getQualifiedIdentifier().toString()));
            return super.visitImport(node, nothing);
        }

        @Override
        public Void visitClass(ClassTree node, Void nothing) {
            classes++;
            int fields = 0;
            for (Tree member : node.getMembers()) {
                Due.yes("rule 5, no initialiser block in " + node.getSimpleName(), member.getKind() != Tree.Kind.BLOCK);
                if (member instanceof VariableTree field) {
                    String flags = field.getModifiers().getFlags().toString();
                    fields += flags.contains("static") ? 0 : 1;
                    Due.yes("rule 5, static is final: " + field, !flags.contains("static") || flags.contains("final"));
                }
            }
            String flags = node.getModifiers().getFlags().toString();
            Due.yes("rule 1, only the class itself is public", classes == 1 || !flags.contains("public") && !flags.contains("protected"));
            Due.yes("rule 11, some twenty fields: " + node.getSimpleName() + " " + fields, fields <= 24);
            return super.visitClass(node, nothing);
        }

        @Override
        public Void visitMethod(MethodTree node, Void nothing) {
            Element before = method;
            method = trees.getElement(getCurrentPath());
            calls.putIfAbsent(method, new HashSet<>());
            SourcePositions at = trees.getSourcePositions();
            long lines = line(at.getEndPosition(unit, node)) - line(at.getStartPosition(unit, node)) + 1;
            Due.yes("rule 11, " + method + " has some sixty lines: " + lines, lines <= 70);
            Due.yes("rule 11, " + method + " takes at most seven", node.getParameters().size() <= 7);
            String flags = node.getModifiers().getFlags().toString();
            Due.yes("rule 1, no private method bears a name of the face: " + method,
                    !flags.contains("private") || !faceNames.contains(node.getName().toString()));
            super.visitMethod(node, nothing);
            method = before;
            return null;
        }

        @Override
        public Void visitMethodInvocation(MethodInvocationTree node, Void nothing) {
            Element called = trees.getElement(getCurrentPath());
            Element owner = called.getEnclosingElement();
            boolean own = ((TypeElement) owner).getQualifiedName().toString().startsWith("BlockWave");
            if (!own && !called.getSimpleName().contentEquals("<init>")) {
                String name = owner.getSimpleName() + "." + called.getSimpleName();
                Due.yes("rule 4, the library has " + name, LIBRARY.contains(name) || isOfWholeNumbers(name, called));
            }
            if (method != null) {
                calls.get(method).add(called);
            }
            return super.visitMethodInvocation(node, nothing);
        }

        private static boolean isOfWholeNumbers(String name, Element called) {
            boolean own = name.matches("(Integer|Long|Math)\\..*") && !name.endsWith("Exact") && called instanceof ExecutableElement;
            return own && ((ExecutableElement) called).getParameters().stream()
                    .allMatch(each -> each.asType().toString().matches("int|long"));
        }

        @Override
        public Void visitNewClass(NewClassTree node, Void nothing) {
            Element called = trees.getElement(getCurrentPath());
            if (method != null && called != null) {
                calls.get(method).add(called);
            }
            return super.visitNewClass(node, nothing);
        }

        @Override
        public Void visitThrow(ThrowTree node, Void nothing) {
            boolean made = node.getExpression() instanceof NewClassTree thrown && THROWN.contains(thrown.getIdentifier().toString());
            Due.yes("rule 6, thrown: " + node, made);
            Due.yes("rule 6, no throw in a constructor", method == null || !method.getSimpleName().contentEquals("<init>"));
            return super.visitThrow(node, nothing);
        }

        @Override
        public Void visitLiteral(LiteralTree node, Void nothing) {
            if (node.getValue() instanceof String text) {
                Due.yes("rule 4, signs 1 to 127: " + node, text.chars().allMatch(sign -> sign >= 1 && sign <= 127));
            }
            return super.visitLiteral(node, nothing);
        }

        @Override
        public Void visitBinary(BinaryTree node, Void nothing) {
            boolean texts = isOf(node.getLeftOperand(), "java.lang.String") || isOf(node.getRightOperand(), "java.lang.String");
            boolean boxed = isOf(node.getLeftOperand(), "java.lang.Integer") && isOf(node.getRightOperand(), "java.lang.Integer");
            boolean asked = node.getKind() == Tree.Kind.EQUAL_TO || node.getKind() == Tree.Kind.NOT_EQUAL_TO;
            Due.no("rule 10, no texts joined by +: " + node, texts && node.getKind() == Tree.Kind.PLUS);
            Due.no("rule 6, no == between Strings or Integers: " + node, asked && (boxed || texts && !isNull(node)));
            return super.visitBinary(node, nothing);
        }

        private boolean isOf(Tree operand, String type) {
            return String.valueOf(trees.getTypeMirror(new TreePath(getCurrentPath(), operand))).equals(type);
        }

        private static boolean isNull(BinaryTree node) {
            return node.getLeftOperand().getKind() == Tree.Kind.NULL_LITERAL || node.getRightOperand().getKind() == Tree.Kind.NULL_LITERAL;
        }

        @Override
        public Void visitLambdaExpression(LambdaExpressionTree node, Void nothing) {
            Due.yes("rule 2, no lambda: " + node, false);
            return null;
        }

        @Override
        public Void visitMemberReference(MemberReferenceTree node, Void nothing) {
            Due.yes("rule 2, no method reference: " + node, false);
            return null;
        }

        @Override
        public Void visitTry(TryTree node, Void nothing) {
            Due.yes("rule 6, no finally, no resources", node.getFinallyBlock() == null && node.getResources().isEmpty());
            for (CatchTree one : node.getCatches()) {
                for (String caught : one.getParameter().getType().toString().split("\\s*\\|\\s*")) {
                    Due.yes("rule 6, caught: " + caught, THROWN.contains(caught));
                }
            }
            return super.visitTry(node, nothing);
        }

        @Override
        public Void visitSynchronized(SynchronizedTree node, Void nothing) {
            Due.yes("rule 6, no synchronized", false);
            return null;
        }

        @Override
        public Void visitAssert(AssertTree node, Void nothing) {
            Due.yes("rule 6, no assert", false);
            return null;
        }
    }
}
