import java.util.NoSuchElementException;
import java.util.Random;

/** Runs by chance (always the same ones): the class must answer every call as the model does. */
public final class RandomRunsTest {
    private static final int RUNS = 1500;
    /** An object is good for 512 calls; looking at all points and counts at once is the most that one step can take. */
    private static final int CALLS = 512 - (4 * 32 + 13);
    private static final int[] EDGES = {-1, -2, Integer.MIN_VALUE, Integer.MAX_VALUE, 31, 32, 33, 96, 97, 20, 21, 99, 100};

    private final Random random;
    private final BlockWave wave = new BlockWave();
    private final Model model = new Model();
    private final StringBuilder told = new StringBuilder();
    private String call;
    private long got;
    private long want;
    private int calls = 0;

    private RandomRunsTest(long seed) {
        random = new Random(seed);
    }

    public static void main(String[] args) {
        for (int run = 0; run < RUNS && Due.wrong() == 0; run++) {
            new RandomRunsTest(run).play(run);
        }
        Due.end("RandomRunsTest");
    }

    private void play(int run) {
        // Some runs ask the dear calls seldom, so that states go far; some stay fresh; some mostly tell notes.
        int mood = run % 4;
        tell();
        while (calls < CALLS) {
            one(pick(mood));
            told.append("\n  ").append(call).append(" -> ").append(got);
            calls++;
            Due.is("run " + run + ", call " + calls + ", " + call, got, want);
            if (got != want) {
                System.out.println("the run:" + told);
                return;
            }
        }
    }

    private int pick(int mood) {
        int which = random.nextInt(60);
        boolean dear = which == 27 || which == 28 || which == 51;
        if (dear && random.nextInt(30) != 0) {
            return 5 + random.nextInt(8);
        }
        if (mood == 1 && (which == 10 || which == 11)) {
            return 8;
        }
        if (mood == 2 && random.nextInt(2) == 0) {
            return 46 + random.nextInt(5);
        }
        return which;
    }

    private int edge() {
        return EDGES[random.nextInt(EDGES.length)];
    }

    /** Mostly 0 .. most less 1, else something at or beyond an edge. */
    private int upTo(int most) {
        int choice = random.nextInt(20);
        return choice == 0 ? edge() : choice == 1 ? most : random.nextInt(most);
    }

    private int place() {
        return upTo(model.count(0));
    }

    private int value() {
        int limit = model.count(9);
        switch (random.nextInt(8)) {
            case 0: return limit;
            case 1: return -limit;
            case 2: return random.nextInt(40) == 0 ? (random.nextBoolean() ? limit + 1 : -limit - 1) : 0;
            case 3: return random.nextInt(21) - 10;
            case 4: return random.nextInt(2 * limit + 1) - limit;
            default: return random.nextInt(limit / 4) - limit / 8;
        }
    }

    private int seed() {
        int choice = random.nextInt(6);
        return choice == 0 ? -1 : choice == 1 ? edge() : random.nextInt() & Integer.MAX_VALUE;
    }

    private void answers(String name, long gotten, long wanted) {
        call = name;
        got = gotten;
        want = wanted;
    }

    private static long bool(boolean answer) {
        return answer ? 1 : 0;
    }

    private void one(int which) {
        if (which < 20) {
            oneOfFirst(which);
        } else if (which < 40) {
            oneOfMiddle(which);
        } else {
            oneOfLast(which);
        }
    }

    private void oneOfFirst(int which) {
        int a = place();
        int b = upTo(3);
        switch (which) {
            case 0: feed(); break;
            case 1: if (random.nextInt(4) == 0) tell(); else text(); break;
            case 2: answers("fault(" + b + ")", wave.fault(b), model.fault(b)); break;
            case 3:
            case 4: point(); break;
            case 5: answers("turn(" + a + ", " + b + ")", wave.turn(a, b), model.turn(a, b)); break;
            case 6: answers("reversed(" + a + ")", wave.reversed(a), model.reversed(a)); break;
            case 7: stage(); break;
            case 8: set(); break;
            case 9: answers("beat()", wave.beat(), model.beat()); break;
            case 10: answers("beatAll()", wave.beatAll(), model.beatAll()); break;
            case 11: answers("turnBack()", bool(wave.turnBack()), bool(model.turnBack())); break;
            case 12: ahead(); break;
            case 13: answers("largest()", wave.largest(), model.largest()); break;
            case 14: answers("left()", wave.left(), model.left()); break;
            case 15: answers("bits()", wave.bits(), model.bits()); break;
            case 16: answers("direct(" + a + ", " + b + ")", wave.direct(a, b), model.direct(a, b)); break;
            case 17: answers("off(" + a + ")", wave.off(a), model.off(a)); break;
            case 18: answers("worst(" + b + ")", wave.worst(b), model.worst(b)); break;
            default: answers("apart()", wave.apart(), model.apart()); break;
        }
    }

    private void oneOfMiddle(int which) {
        int a = place();
        int b = upTo(3);
        int c = upTo(32);
        switch (which) {
            case 20: answers("energy(" + b + ")", wave.energy(b), model.energy(b)); break;
            case 21: int stages = upTo(6); answers("grown(" + stages + ")", wave.grown(stages), model.grown(stages)); break;
            case 22: answers("returned()", wave.returned(), model.returned()); break;
            case 23: answers("taper()", bool(wave.taper()), bool(model.taper())); break;
            case 24: answers("shift(" + c + ")", bool(wave.shift(c)), bool(model.shift(c))); break;
            case 25: answers("peak(" + a + ")", wave.peak(a), model.peak(a)); break;
            case 26: over(); break;
            case 27: noise(); break;
            case 28: answers("best()", wave.best(), model.best()); break;
            case 29: int d = upTo(5); answers("digit(" + a + ", " + d + ")", wave.digit(a, d), model.digit(a, d)); break;
            case 30: answers("mirror()", wave.mirror(), model.mirror()); break;
            case 31: answers("loudest()", wave.loudest(), model.loudest()); break;
            case 32: answers("swing(" + a + ", " + b + ")", wave.swing(a, b), model.swing(a, b)); break;
            case 33: room(); break;
            case 34: answers("foldWhole(" + a + ")", wave.foldWhole(a), model.foldWhole(a)); break;
            case 35: answers("crossed(" + a + ")", wave.crossed(a), model.crossed(a)); break;
            case 36: answers("lag()", wave.lag(), model.lag()); break;
            case 37: int bits = 7 + upTo(11); answers("sweep(" + bits + ")", wave.sweep(bits), model.sweep(bits)); break;
            case 38: int times = 1 + upTo(10); answers("louder(" + times + ")", bool(wave.louder(times)), bool(model.louder(times))); break;
            default: answers("turnRound()", bool(wave.turnRound()), bool(model.turnRound())); break;
        }
    }

    private void oneOfLast(int which) {
        int a = place();
        int b = upTo(3);
        int ring = upTo(97);
        switch (which) {
            case 40: pair(); break;
            case 41: answers("like(" + a + ")", wave.like(a), model.like(a)); break;
            case 42: answers("period()", wave.period(), model.period()); break;
            case 43: answers("bin(" + a + ")", wave.bin(a), model.bin(a)); break;
            case 44: answers("fold(" + a + ")", wave.fold(a), model.fold(a)); break;
            case 45: int p = place(); answers("unfold(" + a + ", " + ring + ", " + p + ")", wave.unfold(a, ring, p), model.unfold(a, ring, p)); break;
            case 46: note(); break;
            case 47: int note = upTo(Math.max(1, model.count(10))); answers("strike(" + note + ")", wave.strike(note), model.strike(note)); break;
            case 48: int n = upTo(model.count(10) + 2) - 1; answers("known(" + n + ")", bool(wave.known(n)), bool(model.known(n))); break;
            case 49: answers("values(" + a + ")", wave.values(a), model.values(a)); break;
            case 50: answers("ask(" + a + ", " + b + ")", wave.ask(a, b), model.ask(a, b)); break;
            case 51: chance(); break;
            case 52: tried(); break;
            case 53: answers("undo()", wave.undo(), model.undo()); break;
            case 54: answers("keep()", wave.keep(), model.keep()); break;
            case 55: answers("back()", wave.back(), model.back()); break;
            case 56: int what = upTo(13); answers("count(" + what + ")", wave.count(what), model.count(what)); break;
            default: all(); break;
        }
    }

    /** All places and counts at once, to see what a call changed. */
    private void all() {
        long gotten = 0;
        long wanted = 0;
        for (int place = 0; place < model.count(0); place++) {
            for (int what = 0; what < 4; what++) {
                gotten = gotten * 31 + wave.point(place, what);
                wanted = wanted * 31 + model.point(place, what);
            }
            calls += 4;
        }
        calls += 12;
        for (int what = 0; what <= 12; what++) {
            gotten = gotten * 31 + wave.count(what);
            wanted = wanted * 31 + model.count(what);
        }
        answers("all points and counts", gotten, wanted);
    }

    private void point() {
        int place = place();
        int what = upTo(4);
        long gotten;
        long wanted;
        try {
            gotten = wave.point(place, what);
        } catch (IndexOutOfBoundsException e) {
            gotten = 1L << 40;
        } catch (NoSuchElementException e) {
            gotten = 1L << 41;
        }
        try {
            wanted = model.point(place, what);
        } catch (IndexOutOfBoundsException e) {
            wanted = 1L << 40;
        } catch (NoSuchElementException e) {
            wanted = 1L << 41;
        }
        answers("point(" + place + ", " + what + ")", gotten, wanted);
    }

    private void stage() {
        int stage = upTo(5);
        int what = upTo(2);
        answers("stage(" + stage + ", " + what + ")", wave.stage(stage, what), model.stage(stage, what));
    }

    private void set() {
        int place = place();
        int re = random.nextInt(50) == 0 ? edge() : value();
        int im = random.nextInt(50) == 0 ? edge() : value();
        answers("set(" + place + ", " + re + ", " + im + ")", bool(wave.set(place, re, im)), bool(model.set(place, re, im)));
    }

    private void ahead() {
        int stages = upTo(6);
        int what = upTo(3);
        answers("ahead(" + stages + ", " + what + ")", wave.ahead(stages, what), model.ahead(stages, what));
    }

    private void over() {
        long own = 0;
        int place = random.nextInt(model.count(0));
        own += (long) model.point(place, 0) * model.point(place, 0) + (long) model.point(place, 1) * model.point(place, 1);
        int squares = random.nextInt(5) == 0 ? edge() : (int) Math.min(Integer.MAX_VALUE, own + random.nextInt(3) - 1);
        answers("over(" + squares + ")", wave.over(squares), model.over(squares));
    }

    private int nearExp() {
        return random.nextInt(8) == 0 ? edge() : Math.max(0, model.sweep(model.count(1)) + random.nextInt(3) - 1);
    }

    private void noise() {
        int seed = seed();
        int exp = nearExp();
        answers("noise(" + seed + ", " + exp + ")", wave.noise(seed, exp), model.noise(seed, exp));
    }

    private void chance() {
        int seed = seed();
        int a = upTo(100);
        int exp = nearExp();
        answers("chance(" + seed + ", " + a + ", " + exp + ")", wave.chance(seed, a, exp), model.chance(seed, a, exp));
    }

    private void room() {
        int of = random.nextInt(8) == 0 ? random.nextInt(70) - 2 : 1 << (1 + random.nextInt(5));
        int block = random.nextInt(12) == 0 ? edge() : random.nextInt(Math.max(1, model.count(0) / Math.max(1, of)) + 1);
        answers("room(" + block + ", " + of + ")", wave.room(block, of), model.room(block, of));
    }

    private void pair() {
        int k = place();
        int which = upTo(2);
        int what = upTo(2);
        answers("pair(" + k + ", " + which + ", " + what + ")", wave.pair(k, which, what), model.pair(k, which, what));
    }

    private void note() {
        int k = place();
        int bin = random.nextInt(3) == 0 ? upTo(97) : random.nextInt(30);
        boolean atLeast = random.nextInt(3) != 0;
        answers("note(" + k + ", " + bin + ", " + atLeast + ")", wave.note(k, bin, atLeast), model.note(k, bin, atLeast));
    }

    private void tried() {
        int what = upTo(5);
        int i = what == 2 ? place() : random.nextInt(10) == 0 ? edge() : 0;
        answers("tried(" + what + ", " + i + ")", wave.tried(what, i), model.tried(what, i));
    }

    // ---- texts

    private void feed() {
        int[] n = random.nextInt(3) == 0
                ? new int[] {random.nextInt(), random.nextInt(), random.nextInt(), random.nextInt(), random.nextInt()}
                : Due.numbers((randomText() + " ".repeat(20)).substring(0, 20));
        answers("feed(" + n[0] + ", " + n[1] + ", " + n[2] + ", " + n[3] + ", " + n[4] + ")",
                wave.feed(n[0], n[1], n[2], n[3], n[4]), model.feed(n[0], n[1], n[2], n[3], n[4]));
    }

    private void text() {
        int n = random.nextInt(40) == 0 ? 0 : random.nextBoolean() ? upTo(40) : edge();
        answers("text(" + n + ")", wave.text(n), model.text(n));
    }

    /** A text told on an emptied tape; the answers of feed() are held against each other, too. */
    private void tell() {
        String text = randomText();
        int[] n = Due.numbers(text);
        answers("feeding", 0, 0);
        int had = emptyTape();
        for (int i = 0; i < n.length; i += 5) {
            Due.is("feed", wave.feed(n[i], n[i + 1], n[i + 2], n[i + 3], n[i + 4]),
                    model.feed(n[i], n[i + 1], n[i + 2], n[i + 3], n[i + 4]));
            calls++;
        }
        answers("text of '" + text + "' (" + had + ")", wave.text(text.length()), model.text(text.length()));
    }

    /** A text of one sign that can't be leaves all as it is, but for the tape. */
    private int emptyTape() {
        wave.feed(0, 0, 0, 0, 0);
        model.feed(0, 0, 0, 0, 0);
        calls += 2;
        int rest = wave.text(20);
        Due.is("emptying", rest, model.text(20));
        return rest;
    }

    private String randomText() {
        StringBuilder text = new StringBuilder();
        int size = random.nextInt(12) == 0 ? random.nextInt(40) : 2 << random.nextInt(5);
        int bits = random.nextInt(3) == 0 ? 16 : 8 + random.nextInt(9);
        if (random.nextInt(8) != 0) {
            line(text, "size", size);
        }
        if (random.nextInt(4) != 0) {
            line(text, "bits", bits);
        }
        String[] words = {"radix", "order", "near", "seed"};
        int[] numbers = {2 + 2 * random.nextInt(2), random.nextInt(2), random.nextInt(2), random.nextInt(100000)};
        for (int i = 0; i < 4; i++) {
            if (random.nextInt(3) != 0) {
                line(text, words[i], numbers[i]);
            }
        }
        points(text, size, (1 << (Math.min(16, bits) - 1)) - 1);
        return random.nextInt(3) == 0 ? spoiled(text) : text.substring(0, Math.min(680, text.length()));
    }

    private void points(StringBuilder text, int size, int limit) {
        int loudness = 1 + random.nextInt(limit);
        for (int point = 0; point < size && text.length() < 640; point++) {
            if (random.nextInt(4) != 0) {
                line(text, random.nextBoolean() ? "real" : "less", point);
                text.setLength(text.length() - 1);
                text.append(' ').append(random.nextInt(loudness + 1)).append(';');
            }
            if (random.nextInt(3) == 0) {
                line(text, random.nextBoolean() ? "side" : "down", point);
                text.setLength(text.length() - 1);
                text.append(' ').append(random.nextInt(loudness + 1)).append(';');
            }
        }
    }

    private void line(StringBuilder text, String word, int number) {
        text.append(random.nextInt(6) == 0 ? "\n" : "").append(word).append(random.nextInt(6) == 0 ? "" : " ");
        text.append(random.nextInt(20) == 0 ? "0" : "").append(number).append(random.nextInt(9) == 0 ? " ;" : ";");
    }

    private String spoiled(StringBuilder text) {
        String[] put = {"size 4;", "bits 9;", "radix 2;", "near 2;", "seed 100000;", "real 0 1;", "less 1 1;", "side 0 1;",
            "down 1 1;", ";", "x", "S", "7", " ", "\t", "99999", "real 0 99999999999999;", "\u00e9", "order 1;", "realreal 0 1;"};
        String with = put[random.nextInt(put.length)];
        int at = random.nextInt(text.length() + 1);
        if (random.nextInt(4) == 0) {
            return text.substring(0, at);
        }
        if (random.nextBoolean()) {
            int stop = text.indexOf(";", at);
            at = stop < 0 ? text.length() : stop + 1;
        }
        text.insert(at, with);
        return text.substring(0, Math.min(680, text.length()));
    }
}
