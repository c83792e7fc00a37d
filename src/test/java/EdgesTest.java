import java.lang.reflect.InvocationTargetException;
import java.lang.reflect.Method;
import java.nio.file.Files;
import java.nio.file.Path;
import java.util.ArrayList;
import java.util.Comparator;
import java.util.List;
import java.util.Map;
import java.util.TreeMap;
import java.util.regex.Matcher;
import java.util.regex.Pattern;

/**
 * Runs every test of an edge, each by itself, and holds them against the document: what a test quotes must stand there,
 * and wherever the document names an edge, a test must quote it.
 */
public final class EdgesTest {
    private static final Path DOCUMENT = Path.of("../shared/DOC.md");
    private static final int PROMISES = 57;
    private static final Class<?>[] TESTS = {EdgesOfTexts.class, EdgesOfPoints.class, EdgesOfStages.class, EdgesOfTrials.class,
        EdgesOfSums.class, EdgesOfRing.class, EdgesOfChance.class, EdgesOfPast.class};
    private static final Pattern NAME = Pattern.compile("promise(\\d+)\\D.*");

    /** Words by which the document tells an edge: too small, too large, empty, full, round the end, refused. */
    private static final Pattern NAMES_AN_EDGE = Pattern.compile("NONE|-2|-1|MIN_VALUE|\\bfalse\\b|\\w+Exception|at most|at least"
            + "|\\d \\.\\. \\w|modulo|first of several|first is ahead|more than|as long as|rounded|no such|too much|none\\b|nothing"
            + "|at first|without|Without|in place of|empty|no more|from the end|above|below|beyond|another|already|isn't|all were"
            + "|must come|can't|if it is 0|less than|latest|stays|times 2|the first k|is 0 and t 0|\\b(?:20|24|512|700)\\b");

    private EdgesTest() {
    }

    /** With a method's name, that one alone. */
    public static void main(String[] args) throws Exception {
        List<Method> tests = tests();
        for (Method test : tests) {
            if (args.length == 0 || test.getName().equals(args[0])) {
                run(test);
            }
        }
        if (args.length == 0) {
            againstTheDocument(tests);
            System.out.println("EdgesTest: " + tests.size() + " tests of edges");
        }
        Due.end("EdgesTest");
    }

    private static List<Method> tests() {
        List<Method> tests = new ArrayList<>();
        for (Class<?> one : TESTS) {
            for (Method method : one.getDeclaredMethods()) {
                if (method.isAnnotationPresent(Edge.class)) {
                    tests.add(method);
                }
            }
        }
        tests.sort(Comparator.comparingInt(EdgesTest::promiseOf).thenComparing(Method::getName));
        return tests;
    }

    private static int promiseOf(Method test) {
        Matcher name = NAME.matcher(test.getName());
        return name.matches() ? Integer.parseInt(name.group(1)) : 0;
    }

    private static void run(Method test) throws IllegalAccessException {
        int before = Due.wrong();
        try {
            test.invoke(null);
        } catch (InvocationTargetException e) {
            Due.yes(test.getName() + " ended by " + e.getCause(), false);
        }
        if (Due.wrong() > before) {
            System.out.println("FAIL  " + test.getName() + ": " + test.getAnnotation(Edge.class).value());
        }
    }

    // ---- the document

    private static void againstTheDocument(List<Method> tests) throws Exception {
        Map<Integer, String> parts = parts();
        Map<Integer, boolean[]> quoted = new TreeMap<>();
        parts.forEach((part, text) -> quoted.put(part, new boolean[text.length()]));
        int[] perPromise = new int[PROMISES + 1];
        for (Method test : tests) {
            int promise = promiseOf(test);
            Due.yes(test.getName() + " is named after a promise", promise >= 1 && promise <= PROMISES);
            perPromise[promise]++;
            String words = test.getAnnotation(Edge.class).value();
            boolean stands = mark(parts.get(promise), words, quoted.get(promise)) | mark(parts.get(0), words, quoted.get(0));
            Due.yes(test.getName() + ": the document has '" + words + "'", stands);
        }
        for (int promise = 1; promise <= PROMISES; promise++) {
            Due.yes("promise " + promise + " has a test of an edge", perPromise[promise] > 0);
        }
        for (int part : parts.keySet()) {
            Matcher edge = NAMES_AN_EDGE.matcher(parts.get(part));
            while (edge.find()) {
                Due.yes("a test quotes '" + around(parts.get(part), edge.start()) + "' of " + (part == 0 ? "the terms" : "promise " + part),
                        quoted.get(part)[edge.start()]);
            }
        }
    }

    /** What is promised, by its number, without the head of the call; 0 is what stands ahead of the promises. */
    private static Map<Integer, String> parts() throws Exception {
        String all = Files.readString(DOCUMENT);
        Map<Integer, String> parts = new TreeMap<>();
        String[] pieces = all.substring(0, all.indexOf("## Not promised")).split("## Promise ");
        String ahead = pieces[0].substring(pieces[0].indexOf("An object is used"), pieces[0].indexOf("## The public face"));
        parts.put(0, plain(ahead + pieces[0].substring(pieces[0].indexOf("## Terms"))));
        for (int i = 1; i < pieces.length; i++) {
            int promise = Integer.parseInt(pieces[i].substring(0, pieces[i].indexOf(':')));
            parts.put(promise, plain(pieces[i].substring(pieces[i].indexOf("`: ") + 3)));
        }
        return parts;
    }

    private static String plain(String text) {
        return text.replaceAll("```\\w*", "").replaceAll("\\s+", " ");
    }

    private static boolean mark(String text, String words, boolean[] quoted) {
        boolean found = false;
        for (int at = text == null ? -1 : text.indexOf(words); at >= 0; at = text.indexOf(words, at + 1)) {
            found = true;
            for (int i = at; i < at + words.length(); i++) {
                quoted[i] = true;
            }
        }
        return found;
    }

    private static String around(String text, int at) {
        return text.substring(Math.max(0, at - 30), Math.min(text.length(), at + 40));
    }
}
