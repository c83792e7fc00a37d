import java.math.BigInteger;
import java.nio.ByteBuffer;
import java.nio.charset.StandardCharsets;
import java.util.ArrayDeque;
import java.util.ArrayList;
import java.util.Arrays;
import java.util.Deque;
import java.util.HashMap;
import java.util.HashSet;
import java.util.List;
import java.util.Map;
import java.util.NoSuchElementException;
import java.util.Set;
import java.util.regex.Matcher;
import java.util.regex.Pattern;

/**
 * The document once more, as slowly and as literally as it can be written, with the whole Java library.
 * It shares nothing with the class, so that random runs can hold the two against each other.
 */
final class Model {
    static final int NONE = -1;

    /** Settings by their words; everything that is not told has what the document says in brackets. */
    private static final class Told {
        final Map<String, Integer> by = new HashMap<>(
                Map.of("size", 8, "bits", 16, "radix", 2, "order", 0, "near", 1, "seed", 0));

        int of(String word) {
            return by.get(word);
        }

        Told with(String word, int number) {
            Told other = new Told();
            other.by.putAll(by);
            other.by.put(word, number);
            return other;
        }

        int n() {
            return of("size");
        }

        int m() {
            return Integer.numberOfTrailingZeros(n());
        }

        int limit() {
            return (int) Math.pow(2, of("bits") - 1) - 1;
        }

        boolean nearest() {
            return of("near") == 1;
        }

        List<Integer> radices() {
            List<Integer> radices = new ArrayList<>();
            if (of("radix") == 2) {
                for (int i = 0; i < m(); i++) {
                    radices.add(2);
                }
                return radices;
            }
            for (int i = 0; i < m() / 2; i++) {
                radices.add(4);
            }
            if (m() % 2 == 1) {
                radices.add(of("order") == 0 ? 0 : radices.size(), 2);
            }
            return radices;
        }

        List<Integer> digits(int place) {
            List<Integer> digits = new ArrayList<>();
            int rest = place;
            for (int i = radices().size() - 1; i >= 0; i--) {
                digits.add(rest % radices().get(i));
                rest /= radices().get(i);
            }
            return digits;
        }

        int reversed(int place) {
            List<Integer> radices = radices();
            List<Integer> digits = digits(place);
            int result = digits.get(0);
            for (int i = 1; i < digits.size(); i++) {
                result = result * radices.get(radices.size() - 1 - i) + digits.get(i);
            }
            return result;
        }
    }

    private static final class State {
        long[] re;
        long[] im;
        long[] wasRe;
        long[] wasIm;
        int exp = 0;
        boolean gone = false;
        List<Integer> halved = new ArrayList<>();

        State(long[] re, long[] im) {
            this.re = re.clone();
            this.im = im.clone();
            wasRe = re.clone();
            wasIm = im.clone();
        }

        State copy() {
            State other = new State(wasRe, wasIm);
            other.re = re.clone();
            other.im = im.clone();
            other.exp = exp;
            other.gone = gone;
            other.halved = new ArrayList<>(halved);
            return other;
        }

        State anew() {
            return new State(wasRe, wasIm);
        }

        long largest() {
            long most = 0;
            for (int i = 0; i < re.length; i++) {
                most = Math.max(most, Math.max(Math.abs(re[i]), Math.abs(im[i])));
            }
            return most;
        }
    }

    private record Note(int k, int bin, boolean atLeast, int strikes) {
    }

    private Told told = new Told();
    private State state = new State(new long[8], new long[8]);
    private State image = null;
    private final Deque<State> past = new ArrayDeque<>();
    private final List<Note> notes = new ArrayList<>();
    private int knownBy = -1;
    private final List<Integer> tape = new ArrayList<>();
    private int fault = 0;
    private int faultPlace = NONE;

    // ---- terms

    static int cos(int k) {
        int[] first = {16384, 16069, 15137, 13623, 11585, 9102, 6270, 3196, 0};
        if (k <= 8) {
            return first[k];
        }
        if (k <= 16) {
            return -cos(16 - k);
        }
        return k <= 24 ? -cos(k - 16) : cos(32 - k);
    }

    static int sin(int k) {
        return cos((k + 24) % 32);
    }

    private static int cosOfTurn(int j, int n) {
        return cos(j * 32 / n);
    }

    private static int sinOfTurn(int j, int n) {
        return sin(j * 32 / n);
    }

    private static long by(long value, long divisor, boolean nearest) {
        return Math.floorDiv(value + (nearest ? divisor / 2 : 0), divisor);
    }

    private static long[] turned(long x, long y, int j, Told told) {
        long c = cosOfTurn(j, told.n());
        long s = sinOfTurn(j, told.n());
        return new long[] {by(x * c + y * s, 16384, told.nearest()), by(y * c - x * s, 16384, told.nearest())};
    }

    private static void reverse(State state, Told told) {
        long[] re = state.re.clone();
        long[] im = state.im.clone();
        for (int place = 0; place < told.n(); place++) {
            state.re[told.reversed(place)] = re[place];
            state.im[told.reversed(place)] = im[place];
        }
    }

    private static int halve(State state, Told told, int radix) {
        int grow = radix == 4 ? 12 : told.of("order") == 0 ? 5 : 6;
        int times = 0;
        while (state.largest() * grow > told.limit() * 2L) {
            for (int i = 0; i < told.n(); i++) {
                state.re[i] = by(state.re[i], 2, told.nearest());
                state.im[i] = by(state.im[i], 2, told.nearest());
            }
            times++;
        }
        state.exp += times;
        return times;
    }

    /** ADDED as sums with powers of less i: what comes to q is the sum of p-th ones times (less i) to the (p times q). */
    private static long[][] added(long[][] in) {
        int r = in.length;
        long[][] out = new long[r][2];
        for (int q = 0; q < r; q++) {
            for (int p = 0; p < r; p++) {
                int quarter = r == 4 ? p * q % 4 : p * q % 2 * 2;
                long x = in[p][0];
                long y = in[p][1];
                for (int i = 0; i < quarter; i++) {
                    long oldX = x;
                    x = y;
                    y = -oldX;
                }
                out[q][0] += x;
                out[q][1] += y;
            }
        }
        return out;
    }

    private static void wings(State state, Told told, int stage) {
        int n = told.n();
        int r = told.radices().get(stage);
        int ahead = 1;
        for (int i = 0; i < stage; i++) {
            ahead *= told.radices().get(i);
        }
        boolean first = told.of("order") == 0;
        int length = first ? ahead : n / (ahead * r);
        for (int g = 0; g < n; g += r * length) {
            for (int k = 0; k < length; k++) {
                long[][] wing = new long[r][];
                for (int q = 0; q < r; q++) {
                    int at = g + k + q * length;
                    wing[q] = new long[] {state.re[at], state.im[at]};
                    if (first && q > 0) {
                        wing[q] = turned(wing[q][0], wing[q][1], q * k * (n / (r * length)), told);
                    }
                }
                wing = added(wing);
                for (int q = 0; q < r; q++) {
                    if (!first && q > 0) {
                        wing[q] = turned(wing[q][0], wing[q][1], q * k * (n / (r * length)), told);
                    }
                    state.re[g + k + q * length] = wing[q][0];
                    state.im[g + k + q * length] = wing[q][1];
                }
            }
        }
    }

    private static int oneStage(State state, Told told, boolean halving) {
        int stage = state.halved.size();
        boolean last = stage == told.radices().size() - 1;
        if (told.of("order") == 0 && stage == 0) {
            reverse(state, told);
        }
        int times = halving ? halve(state, told, told.radices().get(stage)) : 0;
        wings(state, told, stage);
        if (told.of("order") == 1 && last) {
            reverse(state, told);
        }
        state.halved.add(times);
        if (state.gone && last) {
            conjugate(state);
            state.exp -= told.m();
        }
        return times;
    }

    private static void conjugate(State state) {
        for (int i = 0; i < state.im.length; i++) {
            state.im[i] = -state.im[i];
        }
    }

    private static void goBack(State state) {
        conjugate(state);
        state.gone = true;
        state.halved = new ArrayList<>();
    }

    private static boolean done(State state, Told told) {
        return state.halved.size() == told.radices().size();
    }

    private static State run(State from, Told told) {
        State state = from.copy();
        while (!done(state, told)) {
            oneStage(state, told, true);
        }
        return state;
    }

    private boolean doneForward() {
        return !state.gone && done(state, told);
    }

    private boolean fresh() {
        return !state.gone && state.halved.isEmpty();
    }

    private boolean place(int k) {
        return k >= 0 && k < told.n();
    }

    private static boolean in(int value, int least, int most) {
        return value >= least && value <= most;
    }

    private int mod(int k) {
        return Math.floorMod(k, told.n());
    }

    private void push() {
        past.addLast(state.copy());
        if (past.size() > 20) {
            past.removeFirst();
        }
    }

    private void both(long[] re, long[] im) {
        push();
        state.re = re.clone();
        state.im = im.clone();
        state.wasRe = re.clone();
        state.wasIm = im.clone();
    }

    // ---- the text

    int feed(int... numbers) {
        if (tape.size() + 20 > 700) {
            return NONE;
        }
        for (int number : numbers) {
            for (byte part : ByteBuffer.allocate(4).putInt(number).array()) {
                tape.add(part & 255);
            }
        }
        return tape.size();
    }

    private static final class Fault extends RuntimeException {
        private static final long serialVersionUID = 1L;
        final int which;
        final int place;

        Fault(int which, int place) {
            this.which = which;
            this.place = place;
        }
    }

    private record Token(String sign, int place) {
        boolean isNumber() {
            return sign.matches("[0-9]+");
        }

        int number() {
            return new BigInteger(sign).min(BigInteger.valueOf(1000000)).intValue();
        }
    }

    private static List<Token> tokens(String text) {
        List<Token> tokens = new ArrayList<>();
        Matcher matcher = Pattern.compile("[a-z]+|[0-9]+|[^\\n ]").matcher(text);
        while (matcher.find()) {
            tokens.add(new Token(matcher.group(), matcher.start()));
        }
        tokens.add(new Token("", text.length()));
        return tokens;
    }

    private static Token number(Token token) {
        if (!token.isNumber()) {
            throw new Fault(1, token.place());
        }
        return token;
    }

    private static final Map<String, List<Integer>> NUMBERS_OF = Map.of(
            "size", List.of(2, 4, 8, 16, 32), "bits", List.of(8, 9, 10, 11, 12, 13, 14, 15, 16),
            "radix", List.of(2, 4), "order", List.of(0, 1), "near", List.of(0, 1));

    int text(int n) {
        if (n < 0 || n > tape.size()) {
            return -2;
        }
        byte[] bytes = new byte[n];
        for (int i = 0; i < n; i++) {
            bytes[i] = (byte) (int) tape.get(i);
        }
        tape.clear();
        try {
            int lines = read(tokens(new String(bytes, StandardCharsets.ISO_8859_1)));
            fault = 0;
            faultPlace = NONE;
            return lines;
        } catch (Fault f) {
            fault = f.which;
            faultPlace = f.place;
            return NONE;
        }
    }

    private int read(List<Token> tokens) {
        Told newly = new Told();
        Map<String, Integer> points = new HashMap<>();
        Set<String> toldWords = new HashSet<>();
        int lines = 0;
        int at = 0;
        while (!tokens.get(at).sign().isEmpty()) {
            Token word = tokens.get(at++);
            String w = word.sign();
            if (List.of("size", "bits", "radix", "order", "near", "seed").contains(w)) {
                if (List.of("size", "bits").contains(w) && !points.isEmpty()) {
                    throw new Fault(1, word.place());
                }
                if (!toldWords.add(w)) {
                    throw new Fault(3, word.place());
                }
                Token number = number(tokens.get(at++));
                boolean fits = w.equals("seed") ? number.number() <= 99999 : NUMBERS_OF.get(w).contains(number.number());
                if (!fits) {
                    throw new Fault(2, number.place());
                }
                newly.by.put(w, number.number());
            } else if (List.of("real", "less", "side", "down").contains(w)) {
                Token point = number(tokens.get(at++));
                if (point.number() >= newly.n()) {
                    throw new Fault(2, point.place());
                }
                String part = (w.equals("real") || w.equals("less") ? "re " : "im ") + point.number();
                if (points.containsKey(part)) {
                    throw new Fault(3, point.place());
                }
                Token value = number(tokens.get(at++));
                if (value.number() > newly.limit()) {
                    throw new Fault(2, value.place());
                }
                points.put(part, w.equals("less") || w.equals("down") ? -value.number() : value.number());
            } else {
                throw new Fault(1, word.place());
            }
            Token stop = tokens.get(at++);
            if (!stop.sign().equals(";")) {
                throw new Fault(1, stop.place());
            }
            lines++;
        }
        take(newly, points);
        return lines;
    }

    private void take(Told newly, Map<String, Integer> points) {
        told = newly;
        long[] re = new long[told.n()];
        long[] im = new long[told.n()];
        for (int i = 0; i < told.n(); i++) {
            re[i] = points.getOrDefault("re " + i, 0);
            im[i] = points.getOrDefault("im " + i, 0);
        }
        state = new State(re, im);
        image = null;
        past.clear();
        notes.clear();
        knownBy = -1;
    }

    int fault(int what) {
        return what == 0 ? fault : what == 1 ? faultPlace : NONE;
    }

    // ---- calls

    int point(int place, int what) {
        if (!place(place)) {
            throw new IndexOutOfBoundsException();
        }
        if (!in(what, 0, 3)) {
            throw new NoSuchElementException();
        }
        return (int) List.of(state.re, state.im, state.wasRe, state.wasIm).get(what)[place];
    }

    int turn(int j, int what) {
        if (!place(j) || !in(what, 0, 1)) {
            return Integer.MIN_VALUE;
        }
        return what == 0 ? cosOfTurn(j, told.n()) : -sinOfTurn(j, told.n());
    }

    int reversed(int place) {
        return place(place) ? told.reversed(place) : NONE;
    }

    int stage(int stage, int what) {
        if (!in(stage, 0, told.radices().size() - 1) || !in(what, 0, 1)) {
            return NONE;
        }
        if (what == 0) {
            return told.radices().get(stage);
        }
        return stage < state.halved.size() ? state.halved.get(stage) : -2;
    }

    boolean set(int place, int re, int im) {
        if (!place(place) || !in(re, -told.limit(), told.limit()) || !in(im, -told.limit(), told.limit()) || !fresh()) {
            return false;
        }
        long[] newRe = state.re.clone();
        long[] newIm = state.im.clone();
        newRe[place] = re;
        newIm[place] = im;
        both(newRe, newIm);
        return true;
    }

    int beat() {
        if (done(state, told)) {
            return -2;
        }
        push();
        return oneStage(state, told, true);
    }

    int beatAll() {
        state = run(state, told);
        past.clear();
        return state.exp;
    }

    boolean turnBack() {
        if (!doneForward()) {
            return false;
        }
        push();
        goBack(state);
        return true;
    }

    int ahead(int stages, int what) {
        if (!in(stages, 0, 5) || !in(what, 0, 2)) {
            return NONE;
        }
        State later = state.copy();
        int times = 0;
        for (int i = 0; i < stages && !done(later, told); i++) {
            times += oneStage(later, told, true);
        }
        return what == 0 ? later.exp : what == 1 ? (int) later.largest() : times;
    }

    int largest() {
        return (int) state.largest();
    }

    private int room(long most) {
        if (most == 0) {
            return 15;
        }
        int times = 0;
        for (long doubled = most * 2; doubled <= told.limit(); doubled *= 2) {
            times++;
        }
        return Math.min(15, times);
    }

    int left() {
        return room(state.largest());
    }

    int bits() {
        for (int bits = 8; bits <= 16; bits++) {
            State end = run(state.anew(), told.with("bits", bits));
            if (end.halved.stream().allMatch(times -> times == 0)) {
                return bits;
            }
        }
        return -2;
    }

    long direct(int k, int what) {
        if (!place(k) || !in(what, 0, 1)) {
            return Long.MIN_VALUE;
        }
        long sum = 0;
        for (int n = 0; n < told.n(); n++) {
            long c = cosOfTurn(n * k % told.n(), told.n());
            long s = sinOfTurn(n * k % told.n(), told.n());
            sum += what == 0 ? state.wasRe[n] * c + state.wasIm[n] * s : state.wasIm[n] * c - state.wasRe[n] * s;
        }
        return sum;
    }

    private long offOf(State end, int k) {
        long times = 16384L * (long) Math.pow(2, end.exp);
        return Math.max(Math.abs(end.re[k] * times - direct(k, 0)), Math.abs(end.im[k] * times - direct(k, 1)));
    }

    long off(int k) {
        return !place(k) ? NONE : !doneForward() ? -2 : offOf(state, k);
    }

    private long[] worstOf(State end) {
        long[] worst = {-1, -1};
        for (int k = 0; k < told.n(); k++) {
            if (offOf(end, k) > worst[0]) {
                worst = new long[] {offOf(end, k), k};
            }
        }
        return worst;
    }

    long worst(int what) {
        return !in(what, 0, 1) ? NONE : !doneForward() ? -2 : worstOf(state)[what];
    }

    long apart() {
        State a = run(state.anew(), told.with("order", 0));
        State b = run(state.anew(), told.with("order", 1));
        long most = 0;
        for (int i = 0; i < told.n(); i++) {
            most = Math.max(most, Math.abs(a.re[i] * (1L << a.exp) - b.re[i] * (1L << b.exp)));
            most = Math.max(most, Math.abs(a.im[i] * (1L << a.exp) - b.im[i] * (1L << b.exp)));
        }
        return most;
    }

    long energy(int what) {
        if (!in(what, 0, 1)) {
            return NONE;
        }
        long sum = 0;
        for (int i = 0; i < told.n(); i++) {
            long re = what == 0 ? state.re[i] : state.wasRe[i];
            long im = what == 0 ? state.im[i] : state.wasIm[i];
            sum += re * re + im * im;
        }
        return sum;
    }

    int grown(int stages) {
        if (!in(stages, 0, 5)) {
            return NONE;
        }
        State later = state.anew();
        for (int i = 0; i < stages && !done(later, told); i++) {
            oneStage(later, told, false);
        }
        return (int) later.largest();
    }

    long returned() {
        State end = run(state.anew(), told);
        goBack(end);
        end = run(end, told);
        long times = 1L << (end.exp + told.m());
        long most = 0;
        for (int i = 0; i < told.n(); i++) {
            most = Math.max(most, Math.abs(end.re[i] * times - state.wasRe[i] * told.n()));
            most = Math.max(most, Math.abs(end.im[i] * times - state.wasIm[i] * told.n()));
        }
        return most;
    }

    boolean taper() {
        if (!fresh()) {
            return false;
        }
        long[] re = new long[told.n()];
        long[] im = new long[told.n()];
        for (int i = 0; i < told.n(); i++) {
            re[i] = by(state.re[i] * (16384 - cosOfTurn(i, told.n())), 32768, told.nearest());
            im[i] = by(state.im[i] * (16384 - cosOfTurn(i, told.n())), 32768, told.nearest());
        }
        both(re, im);
        return true;
    }

    private void moved(int sign, int places) {
        long[] re = new long[told.n()];
        long[] im = new long[told.n()];
        for (int i = 0; i < told.n(); i++) {
            re[mod(sign * i + places)] = state.re[i];
            im[mod(sign * i + places)] = state.im[i];
        }
        both(re, im);
    }

    boolean shift(int places) {
        if (!in(places, 1, 31) || !fresh()) {
            return false;
        }
        moved(1, places);
        return true;
    }

    boolean turnRound() {
        if (!fresh()) {
            return false;
        }
        moved(-1, 0);
        return true;
    }

    private long squares(int k) {
        return state.re[k] * state.re[k] + state.im[k] * state.im[k];
    }

    int peak(int n) {
        if (!place(n)) {
            return NONE;
        }
        if (!doneForward()) {
            return -2;
        }
        List<Integer> all = new ArrayList<>();
        for (int k = 0; k < told.n(); k++) {
            all.add(k);
        }
        all.sort((a, b) -> squares(a) != squares(b) ? Long.compare(squares(b), squares(a)) : a - b);
        return all.get(n);
    }

    int over(int squares) {
        if (squares < 0) {
            return NONE;
        }
        int found = 0;
        for (int k = 0; k < told.n(); k++) {
            found += squares(k) >= squares ? 1 : 0;
        }
        return found;
    }

    int chance(int seed, int a, int exp) {
        if (seed < -1 || !in(a, 1, 99) || !in(exp, 0, 20)) {
            return NONE;
        }
        BigInteger last = BigInteger.valueOf(seed == -1 ? told.of("seed") : seed);
        int times = 0;
        for (int go = 0; go < 10; go++) {
            State noisy = state.anew();
            for (int i = 0; i < 2 * told.n(); i++) {
                last = last.multiply(BigInteger.valueOf(1103515245)).add(BigInteger.valueOf(12345)).mod(BigInteger.TWO.pow(31));
                int number = last.divide(BigInteger.valueOf(65536)).intValue() % (2 * a + 1) - a;
                long[] row = i % 2 == 0 ? noisy.re : noisy.im;
                row[i / 2] += number;
                if (Math.abs(row[i / 2]) > told.limit()) {
                    row[i / 2] = row[i / 2] < 0 ? -told.limit() : told.limit();
                }
            }
            times += run(noisy, told).exp >= exp ? 1 : 0;
        }
        return times;
    }

    int noise(int seed, int exp) {
        if (seed < -1 || !in(exp, 0, 20)) {
            return NONE;
        }
        for (int a = 1; a <= 99; a++) {
            if (chance(seed, a, exp) >= 5) {
                return a;
            }
        }
        return -2;
    }

    int best() {
        int best = -1;
        long least = 0;
        for (int order = 0; order <= 1; order++) {
            for (int radix = 2; radix <= 4; radix += 2) {
                for (int near = 0; near <= 1; near++) {
                    Told other = told.with("order", order).with("radix", radix).with("near", near);
                    long worst = worstOf(run(state.anew(), other))[0];
                    if (best == -1 || worst < least) {
                        best = 4 * order + (radix == 4 ? 2 : 0) + near;
                        least = worst;
                    }
                }
            }
        }
        return best;
    }

    int digit(int place, int d) {
        return place(place) && in(d, 0, told.radices().size() - 1) ? told.digits(place).get(d) : NONE;
    }

    int mirror() {
        if (!doneForward()) {
            return -2;
        }
        long most = 0;
        for (int k = 0; k < told.n(); k++) {
            most = Math.max(most, Math.abs(state.re[k] - state.re[mod(-k)]));
            most = Math.max(most, Math.abs(state.im[k] + state.im[mod(-k)]));
        }
        return (int) most;
    }

    int tried(int what, int i) {
        if (!in(what, 0, 4) || (what == 2 ? !place(i) : i != 0)) {
            return NONE;
        }
        State from = state.anew();
        switch (what) {
            case 0: return run(from, told.with("near", 0)).exp;
            case 1: return run(from, told.with("near", 1)).exp;
            case 2:
                from.re[i] = 0;
                from.im[i] = 0;
                return run(from, told).exp;
            case 3: return run(from, told.with("radix", 6 - told.of("radix"))).exp;
            default: return run(from, told.with("order", 1 - told.of("order"))).exp;
        }
    }

    int loudest() {
        int best = 0;
        for (int i = 1; i < told.n(); i++) {
            if (tried(2, i) < tried(2, best)) {
                best = i;
            }
        }
        return best;
    }

    long swing(int k, int what) {
        if (!place(k) || !in(what, 0, 1)) {
            return Long.MIN_VALUE;
        }
        long s = 0;
        long t = 0;
        for (int n = 0; n < told.n(); n++) {
            long u = state.wasRe[n] + by(s * 2 * cosOfTurn(k, told.n()), 16384, told.nearest()) - t;
            t = s;
            s = u;
        }
        return what == 0 ? s : t;
    }

    int room(int block, int of) {
        if (!List.of(2, 4, 8, 16, 32).contains(of) || of > told.n() || !in(block, 0, told.n() / of - 1)) {
            return NONE;
        }
        State part = new State(Arrays.copyOfRange(state.re, block * of, block * of + of),
                Arrays.copyOfRange(state.im, block * of, block * of + of));
        return room(part.largest());
    }

    long foldWhole(int k) {
        if (!place(k)) {
            return Long.MIN_VALUE;
        }
        long sum = 0;
        for (int n = 0; n < told.n(); n++) {
            sum += state.wasRe[n] * state.wasIm[mod(k - n)];
        }
        return sum;
    }

    long crossed(int k) {
        if (!place(k)) {
            return Long.MIN_VALUE;
        }
        long sum = 0;
        for (int n = 0; n < told.n(); n++) {
            sum += state.wasRe[n] * state.wasIm[mod(n + k)];
        }
        return sum;
    }

    int lag() {
        int best = 0;
        for (int k = 1; k < told.n(); k++) {
            best = crossed(k) > crossed(best) ? k : best;
        }
        return best;
    }

    int sweep(int bits) {
        return in(bits, 8, 16) ? run(state.anew(), told.with("bits", bits)).exp : NONE;
    }

    boolean louder(int times) {
        if (!in(times, 2, 9) || !fresh() || state.largest() * times > told.limit()) {
            return false;
        }
        both(Arrays.stream(state.re).map(x -> x * times).toArray(), Arrays.stream(state.im).map(x -> x * times).toArray());
        return true;
    }

    int pair(int k, int wave, int what) {
        if (!place(k) || !in(wave, 0, 1) || !in(what, 0, 1) || !doneForward()) {
            return Integer.MIN_VALUE;
        }
        long reHere = state.re[k];
        long imHere = state.im[k];
        long reThere = state.re[mod(told.n() - k)];
        long imThere = state.im[mod(told.n() - k)];
        long[] all = {reHere + reThere, imHere - imThere, imHere + imThere, reThere - reHere};
        return (int) all[2 * wave + what];
    }

    long like(int k) {
        if (!place(k)) {
            return Long.MIN_VALUE;
        }
        long sum = 0;
        for (int n = 0; n < told.n(); n++) {
            sum += state.wasRe[n] * state.wasRe[mod(n + k)];
        }
        return sum;
    }

    int period() {
        int best = 1;
        for (int k = 2; k < told.n(); k++) {
            best = like(k) > like(best) ? k : best;
        }
        return best;
    }

    // ---- the ring

    private static final BigInteger RING = BigInteger.valueOf(97);

    private BigInteger root() {
        return BigInteger.valueOf(Map.of(32, 28, 16, 8, 8, 64, 4, 22, 2, 96).get(told.n()));
    }

    private int binOf(long[] re, int k) {
        BigInteger sum = BigInteger.ZERO;
        for (int n = 0; n < told.n(); n++) {
            sum = sum.add(BigInteger.valueOf(re[n]).multiply(root().modPow(BigInteger.valueOf((long) n * k), RING)));
        }
        return sum.mod(RING).intValue();
    }

    int bin(int k) {
        return place(k) ? binOf(state.wasRe, k) : NONE;
    }

    int fold(int k) {
        return place(k) ? BigInteger.valueOf(foldWhole(k)).mod(RING).intValue() : NONE;
    }

    int unfold(int k, int bin, int place) {
        if (!place(k) || !in(bin, 0, 96) || !place(place)) {
            return NONE;
        }
        BigInteger turned = root().modPow(BigInteger.valueOf((long) -k * place), RING);
        return turned.multiply(BigInteger.valueOf(bin)).multiply(BigInteger.valueOf(told.n()).modInverse(RING)).mod(RING).intValue();
    }

    int note(int k, int bin, boolean atLeast) {
        if (!place(k) || !in(bin, 0, 96) || notes.size() == 24) {
            return NONE;
        }
        notes.add(new Note(k, bin, atLeast, NONE));
        return notes.size() - 1;
    }

    int strike(int note) {
        if (!in(note, 0, notes.size() - 1) || notes.size() == 24) {
            return NONE;
        }
        notes.add(new Note(0, 0, false, note));
        return notes.size() - 1;
    }

    boolean known(int n) {
        if (!in(n, -1, notes.size())) {
            return false;
        }
        knownBy = n;
        return true;
    }

    private int knownCount() {
        return knownBy == -1 ? notes.size() : knownBy;
    }

    private boolean struck(int note) {
        for (int by = note + 1; by < knownCount(); by++) {
            if (notes.get(by).strikes() == note && !struck(by)) {
                return true;
            }
        }
        return false;
    }

    private List<Integer> valuesOf(int place) {
        List<Note> standing = new ArrayList<>();
        for (int note = 0; note < knownCount(); note++) {
            if (notes.get(note).strikes() == NONE && !struck(note)) {
                standing.add(notes.get(note));
            }
        }
        List<Integer> values = new ArrayList<>();
        for (int value = 0; value <= 15; value++) {
            long[] re = state.wasRe.clone();
            re[place] = value;
            if (standing.stream().allMatch(note -> binOf(re, note.k()) >= note.bin() == note.atLeast())) {
                values.add(value);
            }
        }
        return values;
    }

    int values(int place) {
        return place(place) ? valuesOf(place).stream().mapToInt(value -> 1 << value).sum() : NONE;
    }

    int ask(int place, int what) {
        if (!place(place) || !in(what, 0, 2)) {
            return NONE;
        }
        List<Integer> values = valuesOf(place);
        int[] best = null;
        for (int k = 0; k < told.n(); k++) {
            List<Integer> bins = new ArrayList<>();
            for (int value : values) {
                long[] re = state.wasRe.clone();
                re[place] = value;
                bins.add(binOf(re, k));
            }
            for (int number = 1; number <= 96; number++) {
                int so = 0;
                for (int bin : bins) {
                    so += bin >= number ? 1 : 0;
                }
                int left = Math.max(so, bins.size() - so);
                if (best == null || left < best[2]) {
                    best = new int[] {k, number, left};
                }
            }
        }
        return best[what];
    }

    // ---- undone, images

    int undo() {
        if (past.isEmpty()) {
            return NONE;
        }
        state = past.removeLast();
        return past.size();
    }

    int keep() {
        image = state.copy();
        return state.halved.size();
    }

    int back() {
        if (image == null) {
            return NONE;
        }
        state = image.copy();
        past.clear();
        return state.halved.size();
    }

    int count(int what) {
        if (!in(what, 0, 12)) {
            return Integer.MIN_VALUE;
        }
        int[] all = {told.n(), told.of("bits"), told.of("radix"), told.of("order"), told.of("near"),
            told.radices().size(), state.halved.size(), state.gone ? 1 : 0, state.exp, told.limit(),
            notes.size(), knownCount(), past.size()};
        return all[what];
    }
}
