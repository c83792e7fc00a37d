/** Edges of promises that take sums of the points as they were, or look at what is done forward. */
final class EdgesOfSums {
    private static final int[] SIZES = {2, 4, 8, 16, 32};
    private static final long NO_LONG = Long.MIN_VALUE;
    private static final int NO_INT = Integer.MIN_VALUE;
    private static final String STEPS = "size 4;real 0 1;real 1 2;real 2 4;real 3 8;";
    /** One point of 1: its notes are the turns, rounded. */
    private static final String ONE = "size 8;real 1 1;";

    private EdgesOfSums() {
    }

    /** In each state that is not done forward; asked is one call that tells so. */
    private interface Asked {
        long of(BlockWave wave);
    }

    private static void whenNotDoneForward(String call, Asked asked, long due) {
        BlockWave w = Due.told("size 4;real 1 5;side 2 3;");
        Due.is(call + ", no stage done", asked.of(w), due);
        w.beat();
        Due.is(call + ", one stage done", asked.of(w), due);
        w.beat();
        Due.yes(call + ", done forward", asked.of(w) != due);
        w.turnBack();
        Due.is(call + ", it goes back", asked.of(w), due);
        w.beat();
        Due.is(call + ", one stage back", asked.of(w), due);
        w.beat();
        Due.is(call + ", done back", asked.of(w), due);
    }

    // ---- 17: direct

    @Edge("DIRECT of k: the sums over all n of RE, IM, as they were, TURNED by (n times k, modulo N), not rounded, in parts of 16384.")
    static void promise17RoundTheEnd() {
        int[] cos = {-16384, 0, 11585, 15137, 16069};
        int[] sin = {0, 16384, 11585, 6270, 3196};
        for (int i = 0; i < SIZES.length; i++) {
            int last = SIZES[i] - 1;
            // The last times the last is 1, modulo N; 1 times the last is the last: as much below 0 of SIN.
            BlockWave w = Due.told("size " + SIZES[i] + ";real " + last + " 3;side " + last + " 5;");
            for (int times = 0; times < 2; times++) {
                Due.is("size " + SIZES[i] + " the last, RE", w.direct(last, 0), 3L * cos[i] + 5L * sin[i]);
                Due.is("size " + SIZES[i] + " the last, IM", w.direct(last, 1), 5L * cos[i] - 3L * sin[i]);
                Due.is("size " + SIZES[i] + " 1, RE", w.direct(1, 0), 3L * cos[i] - 5L * sin[i] * (last == 1 ? -1 : 1));
                Due.is("size " + SIZES[i] + " 0, RE", w.direct(0, 0), 3L * 16384);
                w.beatAll();
            }
        }
    }

    @Edge("not rounded, in parts of 16384")
    static void promise17MoreThanAnInt() {
        BlockWave w = Due.told("size 32;");
        for (int place = 0; place < 32; place++) {
            w.set(place, -32767, 32767);
        }
        Due.is("direct(0, 0)", w.direct(0, 0), -32L * 32767 * 16384);
        Due.is("direct(0, 1)", w.direct(0, 1), 32L * 32767 * 16384);
        Due.is("direct(1, 0)", w.direct(1, 0), 0);
    }

    @Edge("Long.MIN_VALUE: no such ones.")
    static void promise17NoSuchOnes() {
        for (int size : SIZES) {
            BlockWave w = Due.told("size " + size + ";real 0 1;");
            for (int k : Due.outside(size)) {
                Due.is("size " + size + " direct(" + k + ", 0)", w.direct(k, 0), NO_LONG);
                Due.is("size " + size + " direct(" + k + ", 1)", w.direct(k, 1), NO_LONG);
            }
            for (int what : Due.outside(2)) {
                Due.is("size " + size + " direct(0, " + what + ")", w.direct(0, what), NO_LONG);
            }
        }
    }

    // ---- 18, 19: off, worst

    @Edge("OFF of k, if it is DONE forward: the greater one of how far RE, IM at k, times 16384 and 2 to the EXP, are from DIRECT.")
    static void promise18TheGreaterOfBoth() {
        // 52 is 26 twice; 7 is 4 twice, 7 below 0 is 3 twice.
        BlockWave w = Due.done("size 2;bits 8;real 0 52;side 0 7;");
        Due.is("IM is off by 1", w.off(0), 16384);
        w = Due.done("size 2;bits 8;side 0 52;less 0 7;");
        Due.is("RE is off by 1", w.off(1), 16384);
        w = Due.done("size 2;bits 8;side 0 52;less 0 8;");
        Due.is("not off", w.off(1), 0);
        // 101 is 51, then 26: with EXP 2 it is 104; 2 is 1, then 1.
        w = Due.done("size 2;bits 8;real 0 101;side 0 2;");
        Due.is("off by 3 and by 2", w.off(0), 3 * 16384);
    }

    @Edge("-2: it isn't DONE forward")
    static void promise18NotDoneForward() {
        whenNotDoneForward("off(0)", w -> w.off(0), -2);
        whenNotDoneForward("off(3)", w -> w.off(3), -2);
    }

    @Edge("NONE: no such k.")
    static void promise18NoSuchK() {
        for (int size : SIZES) {
            BlockWave w = Due.done("size " + size + ";real 0 1;");
            for (int k : Due.outside(size)) {
                Due.is("size " + size + " off(" + k + ")", w.off(k), -1);
            }
            Due.is("size " + size + ", the last", w.off(size - 1), 0);
        }
    }

    @Edge("If more than one answer would be right, NONE goes ahead of -2.")
    static void promise18NoneGoesAhead() {
        for (BlockWave w : new BlockWave[] {Due.told("size 4;"), Due.gone("size 4;")}) {
            for (int k : Due.outside(4)) {
                Due.is("off(" + k + ")", w.off(k), -1);
            }
        }
    }

    @Edge("The greatest OFF (what 0), the first k of it (1)")
    static void promise19TheFirstOfSeveral() {
        BlockWave w = Due.done(ONE);
        Due.is("worst(0)", w.worst(0), 16384 - 11585);
        Due.is("worst(1): of 1, 3, 5, 7", w.worst(1), 1);
        w = Due.done("size 8;");
        Due.is("nothing off: worst(0)", w.worst(0), 0);
        Due.is("nothing off: worst(1)", w.worst(1), 0);
        // 51 is 26 twice, 1 is 1 twice: 54 of 52 at 0, 50 of 50 at 1.
        w = Due.done("size 2;bits 8;real 0 51;real 1 1;");
        Due.is("the first is worst", w.worst(1), 0);
        Due.is("by so much", w.worst(0), 2 * 16384);
        for (String text : new String[] {"size 16;bits 8;real 3 99;side 5 77;", "size 32;bits 9;near 0;less 30 211;down 1 99;"}) {
            asOffTells(Due.done(text), text);
        }
    }

    private static void asOffTells(BlockWave w, String text) {
        long most = -1;
        int first = -1;
        for (int k = 0; k < w.count(0); k++) {
            long off = w.off(k);
            if (off > most) {
                most = off;
                first = k;
            }
        }
        Due.is(text + " worst(0)", w.worst(0), most);
        Due.is(text + " worst(1)", w.worst(1), first);
    }

    @Edge("the first k of it (1)")
    static void promise19TheLastMayBeIt() {
        // Halved once: RE 19 below 0 at 0 is 18, IM 81 below 0 at 3 is 80: at note 3 both come to 2, at 1 to none, else to 1.
        BlockWave w = Due.done("size 4;bits 8;less 0 19;down 2 50;down 3 81;");
        int[] due = {1, 0, 1, 2};
        for (int k = 0; k < 4; k++) {
            Due.is("off(" + k + ")", w.off(k), due[k] * 16384);
        }
        Due.is("worst(0)", w.worst(0), 2 * 16384);
        Due.is("worst(1)", w.worst(1), 3);
    }

    @Edge("-2: it isn't DONE forward")
    static void promise19NotDoneForward() {
        whenNotDoneForward("worst(0)", w -> w.worst(0), -2);
        whenNotDoneForward("worst(1)", w -> w.worst(1), -2);
    }

    @Edge("NONE for another what.")
    static void promise19AnotherWhat() {
        BlockWave w = Due.done(ONE);
        for (int what : Due.outside(2)) {
            Due.is("worst(" + what + ")", w.worst(what), -1);
        }
    }

    @Edge("If more than one answer would be right, NONE goes ahead of -2.")
    static void promise19NoneGoesAhead() {
        for (BlockWave w : new BlockWave[] {Due.told(ONE), Due.gone(ONE)}) {
            for (int what : Due.outside(2)) {
                Due.is("worst(" + what + ")", w.worst(what), -1);
            }
        }
    }

    // ---- 26: peak

    @Edge("(0: the greatest; of alike ones the first is ahead)")
    static void promise26OfAlikeOnesTheFirst() {
        BlockWave w = Due.done(STEPS);
        // 15, (-3, 6), -5, (-3, -6): squares 225, 45, 25, 45.
        int[] due = {0, 1, 3, 2};
        for (int n = 0; n < 4; n++) {
            Due.is("peak(" + n + ")", w.peak(n), due[n]);
        }
        for (int size : SIZES) {
            BlockWave alike = Due.done("size " + size + ";down 0 7;");
            for (int n = 0; n < size; n++) {
                Due.is("size " + size + ", all alike: peak(" + n + ")", alike.peak(n), n);
            }
        }
    }

    @Edge("-2: it isn't DONE forward")
    static void promise26NotDoneForward() {
        whenNotDoneForward("peak(0)", w -> w.peak(0), -2);
        whenNotDoneForward("peak(3)", w -> w.peak(3), -2);
    }

    @Edge("NONE: no such number.")
    static void promise26NoSuchNumber() {
        for (int size : SIZES) {
            BlockWave w = Due.done("size " + size + ";");
            for (int n : Due.outside(size)) {
                Due.is("size " + size + " peak(" + n + ")", w.peak(n), -1);
            }
        }
    }

    @Edge("If more than one answer would be right, NONE goes ahead of -2.")
    static void promise26NoneGoesAhead() {
        for (BlockWave w : new BlockWave[] {Due.told("size 4;"), Due.gone("size 4;")}) {
            for (int n : Due.outside(4)) {
                Due.is("peak(" + n + ")", w.peak(n), -1);
            }
        }
    }

    // ---- 31: mirror

    @Edge("The greatest of how far RE at k and at (N less k, modulo N) are apart and IM at both come to in sum, "
            + "whatever is below 0 taken as much above it, if it is DONE forward")
    static void promise31TheFirstAndTheHalfMirrorThemselves() {
        Due.is("nothing there", Due.done("size 4;").mirror(), 0);
        Due.is("a real wave", Due.done(STEPS).mirror(), 0);
        // IM 3 at all notes: 0 with itself is 6, and so are the others.
        Due.is("IM", Due.done("size 4;side 0 3;").mirror(), 6);
        Due.is("IM below 0", Due.done("size 4;down 0 3;").mirror(), 6);
        for (int size : SIZES) {
            // All IM alike: note 0 alone is there, and mirrors itself; of every other sign, note N by 2 alone.
            BlockWave first = Due.told("size " + size + ";");
            BlockWave half = Due.told("size " + size + ";");
            for (int place = 0; place < size; place++) {
                first.set(place, 0, 3);
                half.set(place, 0, place % 2 == 0 ? -3 : 3);
            }
            first.beatAll();
            half.beatAll();
            Due.is("size " + size + ", the first", first.mirror(), 6 * size);
            Due.is("size " + size + ", the half", half.mirror(), 6 * size);
        }
        // IM 5 at place 1: RE of notes 1 and 3 is 5 and -5.
        Due.is("RE apart", Due.done("size 4;side 1 5;").mirror(), 10);
        // With IM 5 below 0 at place 3 RE is 10 and -10, and IM none.
        Due.is("RE apart alone", Due.done("size 4;side 1 5;down 3 5;").mirror(), 20);
        Due.is("RE apart, below 0", Due.done("size 4;down 1 5;").mirror(), 10);
    }

    @Edge("-2: it isn't.")
    static void promise31NotDoneForward() {
        whenNotDoneForward("mirror()", BlockWave::mirror, -2);
    }

    // ---- 33: swing

    @Edge("By k: s is 0 and t 0 at first; POINT by POINT, as they were: u is RE and (s times twice COS of TURN of k by 16384, "
            + "rounded as TURNED are) less t; t is s, s is u.")
    static void promise33FromNothingOn() {
        BlockWave w = Due.told("size 2;real 0 3;real 1 5;side 0 9;");
        for (int times = 0; times < 2; times++) {
            Due.is("swing(0, 0)", w.swing(0, 0), 5 + 6);
            Due.is("swing(0, 1)", w.swing(0, 1), 3);
            Due.is("swing(1, 0)", w.swing(1, 0), 5 - 6);
            Due.is("swing(1, 1)", w.swing(1, 1), 3);
            w.beatAll();
        }
        BlockWave loud = Due.told("size 32;");
        for (int place = 0; place < 32; place++) {
            loud.set(place, -32767, 0);
        }
        Due.is("all there can be: s", loud.swing(0, 0), -32767L * 32 * 33 / 2);
        Due.is("all there can be: t", loud.swing(0, 1), -32767L * 31 * 32 / 2);
    }

    @Edge("rounded as TURNED are")
    static void promise33Rounded() {
        // Of 8 points twice COS of 1 is 1.4142: from 9 on by nearest 9, 13, 9, 0, -9, -13, -9, 0; by cut 9, 12, 7, -3, -12, -14, -8, 2.
        BlockWave nearest = Due.told("size 8;real 0 9;");
        Due.is("nearest: s", nearest.swing(1, 0), 0);
        Due.is("nearest: t", nearest.swing(1, 1), -9);
        BlockWave cut = Due.told("size 8;near 0;real 0 9;");
        Due.is("cut: s", cut.swing(1, 0), 2);
        Due.is("cut: t", cut.swing(1, 1), -8);
        // 4096 times 23170 by 16384 is 5792 and a half.
        BlockWave half = Due.told("size 8;real 6 4096;");
        Due.is("a half", half.swing(1, 0), 5793);
        BlockWave below = Due.told("size 8;less 6 4096;");
        Due.is("a half below 0", below.swing(1, 0), -5792);
        Due.is("a half, cut", Due.told("size 8;near 0;real 6 4096;").swing(1, 0), 5792);
        Due.is("a half below 0, cut", Due.told("size 8;near 0;less 6 4096;").swing(1, 0), -5793);
    }

    @Edge("Long.MIN_VALUE: no such ones.")
    static void promise33NoSuchOnes() {
        for (int size : SIZES) {
            BlockWave w = Due.told("size " + size + ";real 0 1;");
            for (int k : Due.outside(size)) {
                Due.is("size " + size + " swing(" + k + ", 0)", w.swing(k, 0), NO_LONG);
                Due.is("size " + size + " swing(" + k + ", 1)", w.swing(k, 1), NO_LONG);
            }
            for (int what : Due.outside(2)) {
                Due.is("size " + size + " swing(0, " + what + ")", w.swing(0, what), NO_LONG);
            }
            Due.yes("size " + size + ", the last", w.swing(size - 1, 0) != NO_LONG);
        }
    }

    // ---- 35, 36, 37: folded, crossed; 42, 43: like

    @Edge("FOLD of k: the sum over n of RE at n times IM at (k less n, modulo N)")
    static void promise35RoundTheEnd() {
        for (int p = 0; p < 8; p++) {
            for (int q = 0; q < 8; q++) {
                BlockWave w = Due.told("real " + p + " 1000;down " + q + " 300;");
                for (int k = 0; k < 8; k++) {
                    Due.is("RE at " + p + ", IM at " + q + ": foldWhole(" + k + ")", w.foldWhole(k), k == (p + q) % 8 ? -300000 : 0);
                }
            }
        }
    }

    @Edge("FOLD in whole numbers, not in the RING; Long.MIN_VALUE: no such k.")
    static void promise35MoreThanAnInt() {
        BlockWave w = Due.told("size 32;");
        for (int place = 0; place < 32; place++) {
            w.set(place, 32767, -32767);
        }
        w.beatAll();
        for (int k = 0; k < 32; k++) {
            Due.is("foldWhole(" + k + ")", w.foldWhole(k), -32L * 32767 * 32767);
        }
    }

    @Edge("Long.MIN_VALUE: no such k.")
    static void promise35NoSuchK() {
        for (int size : SIZES) {
            BlockWave w = Due.told("size " + size + ";real 0 1;side 0 1;");
            for (int k : Due.outside(size)) {
                Due.is("size " + size + " foldWhole(" + k + ")", w.foldWhole(k), NO_LONG);
            }
            Due.is("size " + size + ", the last", w.foldWhole(size - 1), 0);
        }
    }

    @Edge("The sum over n of RE as they were at n times IM as they were at (n and k, modulo N)")
    static void promise36RoundTheEnd() {
        for (int p = 0; p < 8; p++) {
            for (int q = 0; q < 8; q++) {
                BlockWave w = Due.told("less " + p + " 1000;down " + q + " 300;");
                w.beatAll();
                for (int k = 0; k < 8; k++) {
                    Due.is("RE at " + p + ", IM at " + q + ": crossed(" + k + ")", w.crossed(k), k == (q - p + 8) % 8 ? 300000 : 0);
                }
            }
        }
        BlockWave loud = Due.told("size 32;");
        for (int place = 0; place < 32; place++) {
            loud.set(place, 32767, -32767);
        }
        Due.is("more than an int", loud.crossed(31), -32L * 32767 * 32767);
    }

    @Edge("Long.MIN_VALUE: no such k.")
    static void promise36NoSuchK() {
        for (int size : SIZES) {
            BlockWave w = Due.told("size " + size + ";real 0 1;side 0 1;");
            for (int k : Due.outside(size)) {
                Due.is("size " + size + " crossed(" + k + ")", w.crossed(k), NO_LONG);
            }
            Due.is("size " + size + ", the last", w.crossed(size - 1), 0);
        }
    }

    @Edge("The k, from 0 on, by which crossed() is greatest, the first of several.")
    static void promise37TheFirstOfSeveral() {
        Due.is("all 0", new BlockWave().lag(), 0);
        Due.is("1 and 3 alike", Due.told("size 4;real 0 1;side 1 5;side 3 5;").lag(), 1);
        Due.is("0 and 3 alike", Due.told("size 4;real 0 1;side 0 5;side 3 5;").lag(), 0);
        Due.is("all alike, below 0", Due.told("size 4;real 0 1;down 0 5;down 1 5;down 2 5;down 3 5;").lag(), 0);
        Due.is("the first alone", Due.told("size 4;real 1 1;side 1 10;side 3 5;").lag(), 0);
        Due.is("from 1 round to 0", Due.told("size 8;real 1 1;side 0 5;").lag(), 7);
        Due.is("the least below 0", Due.told("size 4;real 0 1;down 0 5;down 1 5;down 2 4;down 3 5;").lag(), 2);
        for (int size : SIZES) {
            BlockWave w = Due.told("size " + size + ";real 0 2;side " + (size - 1) + " 3;");
            Due.is("size " + size + ", the last", w.lag(), size - 1);
            w.beatAll();
            Due.is("size " + size + ", as they were", w.lag(), size - 1);
        }
    }

    @Edge("LIKE of k: the sum over n of RE as they were at n times that at (n and k, modulo N).")
    static void promise42RoundTheEnd() {
        for (int p = 0; p < 8; p++) {
            for (int q = 0; q < 8; q++) {
                if (p == q) {
                    continue;
                }
                BlockWave w = Due.told("real " + p + " 7;less " + q + " 100;side 0 9;");
                w.beatAll();
                for (int k = 0; k < 8; k++) {
                    long due = k == 0 ? 10049 : (p + k) % 8 == q && (q + k) % 8 == p ? -1400 : (p + k) % 8 == q || (q + k) % 8 == p ? -700 : 0;
                    Due.is("RE at " + p + " and " + q + ": like(" + k + ")", w.like(k), due);
                }
            }
        }
        BlockWave loud = Due.told("size 32;");
        for (int place = 0; place < 32; place++) {
            loud.set(place, -32767, 0);
        }
        Due.is("more than an int", loud.like(31), 32L * 32767 * 32767);
    }

    @Edge("LIKE; Long.MIN_VALUE: no such k.")
    static void promise42NoSuchK() {
        for (int size : SIZES) {
            BlockWave w = Due.told("size " + size + ";real 0 1;");
            for (int k : Due.outside(size)) {
                Due.is("size " + size + " like(" + k + ")", w.like(k), NO_LONG);
            }
            Due.is("size " + size + ", the last", w.like(size - 1), 0);
        }
    }

    @Edge("The k 1 .. N less 1 by which LIKE is greatest, the first of several.")
    static void promise43From1OnTheFirstOfSeveral() {
        for (int size : SIZES) {
            Due.is("size " + size + ", all 0", Due.told("size " + size + ";").period(), 1);
            // LIKE of 0 is greater, but 0 is none of them.
            Due.is("size " + size + ", one alone", Due.told("size " + size + ";real 0 9;").period(), 1);
            BlockWave half = Due.told("size " + size + ";real 0 9;real " + size / 2 + " 9;");
            Due.is("size " + size + ", the half", half.period(), size / 2);
            half.beatAll();
            Due.is("size " + size + ", as they were", half.period(), size / 2);
        }
        Due.is("2 and 6 alike", Due.told("real 0 1;real 2 1;").period(), 2);
        Due.is("1, though 4 is like, too", Due.told("real 1 4;real 2 4;real 6 1;").period(), 1);
        Due.is("4, though 1 is there", Due.told("real 1 5;real 5 5;").period(), 4);
        Due.is("below 0", Due.told("size 2;real 0 3;less 1 3;").period(), 1);
        // LIKE of 1 is -6, of 2 is 4, of 3 is -6.
        Due.is("below and above 0", Due.told("size 4;real 0 1;less 1 2;real 2 1;less 3 1;").period(), 2);
    }

    // ---- 41: pair

    @Edge("PAIR: at k, if it is DONE forward, twice what is of the first real wave (RE as they were): "
            + "RE at k and at (N less k, modulo N), IM at k less IM there")
    static void promise41TheFirstAndTheHalfWithThemselves() {
        BlockWave w = Due.done("size 4;real 0 1;real 1 2;real 2 4;real 3 8;side 0 3;side 1 5;");
        // Of the first wave the notes are 15, (-3, 6), -5, (-3, -6); of the second 8, (3, -5), -2, (3, 5).
        int[][] first = {{30, 0}, {-6, 12}, {-10, 0}, {-6, -12}};
        int[][] second = {{16, 0}, {6, -10}, {-4, 0}, {6, 10}};
        for (int k = 0; k < 4; k++) {
            for (int what = 0; what < 2; what++) {
                Due.is("pair(" + k + ", 0, " + what + ")", w.pair(k, 0, what), first[k][what]);
                Due.is("pair(" + k + ", 1, " + what + ")", w.pair(k, 1, what), second[k][what]);
            }
        }
        BlockWave two = Due.done("size 2;real 0 3;side 1 5;");
        int[] due = {6, 0, 10, 0, 6, 0, -10, 0};
        for (int i = 0; i < 8; i++) {
            Due.is("of two points " + i, two.pair(i / 4, i / 2 % 2, i % 2), due[i]);
        }
    }

    @Edge("Integer.MIN_VALUE: no such ones, it isn't DONE forward.")
    static void promise41NotDoneForward() {
        whenNotDoneForward("pair(0, 0, 0)", w -> w.pair(0, 0, 0), NO_INT);
        whenNotDoneForward("pair(3, 1, 1)", w -> w.pair(3, 1, 1), NO_INT);
    }

    @Edge("Integer.MIN_VALUE: no such ones, it isn't DONE forward.")
    static void promise41NoSuchOnes() {
        for (int size : SIZES) {
            BlockWave w = Due.done("size " + size + ";real 0 1;");
            for (int k : Due.outside(size)) {
                Due.is("size " + size + " pair(" + k + ", 0, 0)", w.pair(k, 0, 0), NO_INT);
                Due.is("size " + size + " pair(" + k + ", 1, 1)", w.pair(k, 1, 1), NO_INT);
            }
            for (int other : Due.outside(2)) {
                Due.is("size " + size + " pair(0, " + other + ", 0)", w.pair(0, other, 0), NO_INT);
                Due.is("size " + size + " pair(0, 0, " + other + ")", w.pair(0, 0, other), NO_INT);
            }
            Due.is("size " + size + ", the last", w.pair(size - 1, 0, 0), 2);
        }
    }
}
