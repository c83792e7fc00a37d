import java.lang.reflect.InvocationTargetException;
import java.lang.reflect.Method;
import java.lang.reflect.Modifier;
import java.net.URL;
import java.net.URLClassLoader;
import java.nio.file.Files;
import java.nio.file.Path;
import java.util.ArrayList;
import java.util.Comparator;
import java.util.List;
import java.util.Map;
import java.util.Set;
import java.util.TreeMap;
import java.util.TreeSet;
import java.util.regex.Matcher;
import java.util.regex.Pattern;
import java.util.stream.Stream;
import javax.tools.ToolProvider;

/** What README.md says is so: its examples answer as they say, each refused call, too, and no call is left out. */
public final class ReadmeTest {
    private static final Path README = Path.of("README.md");
    private static final Pattern BLOCK = Pattern.compile("```java\n(.*?)```", Pattern.DOTALL);
    private static final Pattern ANSWERED = Pattern.compile("(.*\\));\\s*// (-?\\d+|true|false)\\b.*");
    private static final Pattern ROW = Pattern.compile("\\| (`\\w+\\(.*) \\| `([\\w.-]+)` \\| .* \\|");
    private static final Pattern CALL = Pattern.compile("`(\\w+)\\(([^)]*)\\)`(?: (\\d+) times)?");
    private static final Pattern NEVER = Pattern.compile("Never refused: (.*)");
    private static final Pattern NAME = Pattern.compile("`(\\w+)`");
    private static final Map<String, String> WRITTEN = Map.of("NONE", "-1", "Integer.MIN_VALUE", String.valueOf(Integer.MIN_VALUE),
            "Long.MIN_VALUE", String.valueOf(Long.MIN_VALUE));

    private ReadmeTest() {
    }

    public static void main(String[] args) throws Exception {
        String page = Files.readString(README);
        examples(page);
        refusals(page);
        Due.end("ReadmeTest");
    }

    private static void same(String call, String got, String want) {
        Due.yes(call + " answered " + got + ", README.md says " + want, got.equals(want));
    }

    // ---- examples: all blocks are one program

    private static void examples(String page) throws Exception {
        StringBuilder members = new StringBuilder();
        StringBuilder body = new StringBuilder();
        int answers = 0;
        Matcher block = BLOCK.matcher(page);
        while (block.find()) {
            if (block.group(1).startsWith("static ")) {
                members.append(block.group(1));
                continue;
            }
            for (String line : block.group(1).split("\n")) {
                Matcher answered = ANSWERED.matcher(line);
                boolean hasAnswer = answered.matches();
                answers += hasAnswer ? 1 : 0;
                Due.yes("an answer can be read from '" + line + "'", hasAnswer || !line.contains("//"));
                body.append(hasAnswer ? asked(answered.group(1), answered.group(2)) : line).append('\n');
            }
        }
        Due.yes("README.md has examples", answers > 0);
        run("public final class Examples {\n" + members + "public static void run(java.util.List<String[]> answers) {\n" + body + "}\n}\n");
    }

    private static String asked(String call, String want) {
        String told = call.replace("\"", "'");
        return "answers.add(new String[] {\"" + told + "\", String.valueOf(" + call + "), \"" + want + "\"});";
    }

    private static void run(String source) throws Exception {
        Path made = Files.createTempDirectory("readme");
        try {
            Path file = made.resolve("Examples.java");
            Files.writeString(file, source);
            int wrong = ToolProvider.getSystemJavaCompiler().run(null, null, null, "-cp", System.getProperty("java.class.path"),
                    "-proc:none", "-d", made.toString(), file.toString());
            Due.is("the examples of README.md compile", wrong, 0);
            if (wrong != 0) {
                return;
            }
            List<String[]> answers = new ArrayList<>();
            try (URLClassLoader loader = new URLClassLoader(new URL[] {made.toUri().toURL()}, ReadmeTest.class.getClassLoader())) {
                loader.loadClass("Examples").getMethod("run", List.class).invoke(null, answers);
            }
            for (String[] answer : answers) {
                same(answer[0], answer[1], answer[2]);
            }
        } finally {
            remove(made);
        }
    }

    private static void remove(Path made) throws Exception {
        try (Stream<Path> all = Files.walk(made)) {
            for (Path one : all.sorted(Comparator.reverseOrder()).toList()) {
                Files.delete(one);
            }
        }
    }

    // ---- refusals: each row is a run on a new object

    private static void refusals(String page) throws Exception {
        Map<String, Method> face = face();
        Set<String> told = new TreeSet<>();
        for (String line : page.split("\n")) {
            Matcher row = ROW.matcher(line);
            if (row.matches()) {
                told.add(refusal(row.group(1), row.group(2), face));
            }
        }
        Matcher never = NEVER.matcher(page);
        Due.yes("README.md says what is never refused", never.find());
        Matcher name = NAME.matcher(never.group(1));
        while (name.find()) {
            Due.yes(name.group(1) + " is refused in a row of README.md and never refused", told.add(name.group(1)));
        }
        same("the calls of README.md", told.toString(), face.keySet().toString());
    }

    private static Map<String, Method> face() {
        Map<String, Method> face = new TreeMap<>();
        for (Method method : BlockWave.class.getDeclaredMethods()) {
            if (Modifier.isPublic(method.getModifiers())) {
                face.put(method.getName(), method);
            }
        }
        return face;
    }

    /** Which call it was. */
    private static String refusal(String calls, String answer, Map<String, Method> face) throws Exception {
        BlockWave wave = new BlockWave();
        String want = WRITTEN.getOrDefault(answer, answer);
        String before = "";
        String got = "";
        Matcher call = CALL.matcher(calls);
        String name = "";
        while (call.find()) {
            Due.no("in '" + calls + "' only the last one is refused", got.equals(want));
            name = call.group(1);
            Method method = face.get(name);
            Due.yes(calls + " has a call of the face", method != null);
            before = Due.seen(wave);
            int times = call.group(3) == null ? 1 : Integer.parseInt(call.group(3));
            for (int i = 0; i < times; i++) {
                got = answerOf(wave, method, call.group(2));
            }
        }
        same(calls, got, want);
        // The only refused call that is said to change something: a fault is told of it.
        if (wave.fault(0) == 0) {
            same("all that can be seen behind " + calls, Due.seen(wave), before);
        }
        return name;
    }

    private static String answerOf(BlockWave wave, Method method, String written) throws IllegalAccessException {
        String[] parts = written.isEmpty() ? new String[0] : written.split(", ");
        Object[] given = new Object[parts.length];
        for (int i = 0; i < parts.length; i++) {
            given[i] = method.getParameterTypes()[i] == boolean.class ? (Object) Boolean.valueOf(parts[i]) : (Object) Integer.decode(parts[i]);
        }
        try {
            return String.valueOf(method.invoke(wave, given));
        } catch (InvocationTargetException e) {
            return e.getCause().getClass().getSimpleName();
        }
    }
}
