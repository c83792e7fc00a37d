/** Edges of promises 28 and 52: noise by chance, held against numbers drawn here. */
final class EdgesOfChance {
    private static final int LEAST = Integer.MIN_VALUE;
    private static final int MOST = Integer.MAX_VALUE;

    private EdgesOfChance() {
    }

    /** Two points (RE, IM, RE, IM) of words with a LIMIT, by order 0 and nearest: so there is one stage, by GROW 5. */
    private record Two(int limit, int... values) {
        BlockWave wave(String more) {
            BlockWave w = Due.told("size 2;bits " + (Integer.numberOfTrailingZeros(limit + 1) + 1) + ";" + more);
            w.set(0, values[0], values[1]);
            w.set(1, values[2], values[3]);
            return w;
        }

        private int exp(int[] noisy) {
            int largest = 0;
            for (int value : noisy) {
                largest = Math.max(largest, Math.abs(value));
            }
            if (largest * 5 <= limit * 2) {
                return 0;
            }
            int[] halved = new int[4];
            for (int i = 0; i < 4; i++) {
                halved[i] = Math.floorDiv(noisy[i] + 1, 2);
            }
            return 1 + exp(halved);
        }

        /** In how many of ten times EXP is so much; kept tells whether values are kept in the word. */
        int times(long seed, int a, int exp, boolean kept) {
            long last = seed;
            int times = 0;
            for (int go = 0; go < 10; go++) {
                int[] noisy = new int[4];
                for (int i = 0; i < 4; i++) {
                    last = (last * 1103515245L + 12345L) % (1L << 31);
                    int value = values[i] + (int) (last / 65536 % (2 * a + 1)) - a;
                    noisy[i] = kept ? Math.max(-limit, Math.min(limit, value)) : value;
                }
                times += exp(noisy) >= exp ? 1 : 0;
            }
            return times;
        }

        int leastAmount(long seed, int exp) {
            for (int a = 1; a <= 99; a++) {
                if (times(seed, a, exp, true) >= 5) {
                    return a;
                }
            }
            return -2;
        }
    }

    // ---- 52: chance

    @Edge("NOISE: numbers are the last one (at first the seed) times 1103515245 and 12345, without what is above 31 bits, by 65536")
    static void promise52NumbersFromTheLeastSeedToTheMost() {
        Two two = new Two(127, 50, 0, 0, 49);
        for (int seed : new int[] {0, 1, 2, 65535, 65536, 99999, 1 << 30, MOST - 1, MOST}) {
            BlockWave w = two.wave("");
            for (int a : new int[] {1, 2, 3, 50, 98, 99}) {
                for (int exp = 0; exp <= 3; exp++) {
                    Due.is("chance(" + seed + ", " + a + ", " + exp + ")", w.chance(seed, a, exp), two.times(seed, a, exp, true));
                }
            }
        }
    }

    @Edge("POINT by POINT, to RE, as it was, then to IM, comes a number (one each) modulo (twice A and 1) less A")
    static void promise52OneNumberForEachOfREAndIM() {
        // Only one of the four is so great that 1 more is halved; which one it is tells which number comes to it.
        for (int which = 0; which < 4; which++) {
            int[] values = new int[4];
            values[which] = which % 2 == 0 ? 50 : -50;
            Two two = new Two(127, values);
            BlockWave w = two.wave("");
            for (int seed = 0; seed < 20; seed++) {
                Due.is("chance(" + seed + ", 1, 1), " + which, w.chance(seed, 1, 1), two.times(seed, 1, 1, true));
                Due.is("chance(" + seed + ", 2, 1), " + which, w.chance(seed, 2, 1), two.times(seed, 2, 1, true));
            }
            w.beatAll();
            Due.is("as it was, " + which, w.chance(3, 1, 1), two.times(3, 1, 1, true));
        }
    }

    @Edge("and what is above LIMIT or below 0 by more is LIMIT, or as much below 0.")
    static void promise52KeptInTheWord() {
        for (int which = 0; which < 4; which++) {
            for (int sign = -1; sign <= 1; sign += 2) {
                int[] values = new int[4];
                values[which] = sign * 127;
                Two two = new Two(127, values);
                BlockWave w = two.wave("");
                int beyond = 0;
                // 127 is halved twice, never thrice, as 204 and more would be.
                for (int seed = 0; seed < 10; seed++) {
                    beyond += two.times(seed, 99, 3, false);
                    Due.is("chance(" + seed + ", 99, 3)", w.chance(seed, 99, 3), 0);
                    Due.is("chance(" + seed + ", 9, 2)", w.chance(seed, 9, 2), two.times(seed, 9, 2, true));
                }
                Due.yes("without it some would be halved thrice", beyond > 0);
            }
        }
    }

    @Edge("In how many of ten times with NOISE of A 1 .. 99")
    static void promise52FromNoneToTen() {
        BlockWave loud = new Two(127, 127, 127, -127, -127).wave("");
        BlockWave still = new Two(32767, 0, 0, 0, 0).wave("");
        for (int a : new int[] {1, 99}) {
            for (int seed : new int[] {0, 7, MOST}) {
                Due.is("all ten by " + a, loud.chance(seed, a, 1), 10);
                Due.is("none by " + a, still.chance(seed, a, 1), 0);
            }
        }
    }

    @Edge("(numbers from a seed 0 .. 2147483647 on, or by -1 from that of the TEXT, one behind another)")
    static void promise52TheSeedOfTheText() {
        Two two = new Two(127, 50, 0, 0, 49);
        for (int seed : new int[] {0, 5, 99999}) {
            BlockWave w = two.wave("seed " + seed + ";");
            for (int a : new int[] {1, 2, 3, 7, 99}) {
                Due.is("by -1, seed " + seed, w.chance(-1, a, 1), two.times(seed, a, 1, true));
                Due.is("again, from the seed on", w.chance(-1, a, 1), two.times(seed, a, 1, true));
            }
        }
        BlockWave untold = two.wave("");
        Due.is("by -1, none told", untold.chance(-1, 1, 1), two.times(0, 1, 1, true));
    }

    @Edge("EXP is so much 0 .. 20 at least, when all STAGES are DONE forward")
    static void promise52AsMuchJust() {
        // 127 below 0 stays so by 1 less, and is halved twice by 1 more, too.
        BlockWave w = new Two(127, -127, 0, 0, 0).wave("");
        Due.is("EXP 0", w.chance(1, 1, 0), 10);
        Due.is("EXP 2", w.chance(1, 1, 2), 10);
        Due.is("EXP 3", w.chance(1, 1, 3), 0);
        Due.is("EXP 20", w.chance(1, 1, 20), 0);
        // Of four points the second stage halves once more: 127 and 127, as they are, EXP 3 in all.
        BlockWave four = Due.told("size 4;bits 8;real 0 120;real 1 120;real 2 120;real 3 120;");
        Due.is("all stages: EXP 3", four.chance(1, 1, 3), 10);
        Due.is("all stages: EXP 4", four.chance(1, 1, 4), 0);
        // 32 points of 4 are some 64 by the fifth stage, which halves them.
        BlockWave five = Due.told("size 32;bits 8;");
        for (int place = 0; place < 32; place++) {
            five.set(place, 4, 0);
        }
        Due.is("the fifth stage, too", five.chance(1, 1, 1), 10);
    }

    @Edge("NONE: no such ones.")
    static void promise52NoSuchOnes() {
        BlockWave w = Due.told("size 2;real 0 5;");
        Due.stays("no such ones", w, () -> {
            for (int seed : new int[] {-2, -3, LEAST, LEAST + 1}) {
                Due.is("chance(" + seed + ", 1, 0)", w.chance(seed, 1, 0), -1);
            }
            for (int a : new int[] {0, 100, -1, 101, LEAST, MOST}) {
                Due.is("chance(0, " + a + ", 0)", w.chance(0, a, 0), -1);
            }
            for (int exp : new int[] {-1, 21, -2, 22, LEAST, MOST}) {
                Due.is("chance(0, 1, " + exp + ")", w.chance(0, 1, exp), -1);
                Due.is("chance(-1, 99, " + exp + ")", w.chance(-1, 99, exp), -1);
            }
        });
        Due.is("the most of all", w.chance(MOST, 99, 20), 0);
        Due.stays("noise that is tried", w, () -> w.chance(5, 99, 0));
    }

    // ---- 28: noise

    @Edge("The least A 1 .. 99 by which chance() with a seed (-1, too) tells 5 at least for EXP 0 .. 20")
    static void promise28TheLeastFrom1To99() {
        // Amounts 1, 99 and some between come to be the least for some seed.
        Two two = new Two(255, 20, -20, 20, 20);
        boolean last = false;
        for (int seed = 0; seed < 4000 && !last; seed++) {
            int due = two.leastAmount(seed, 1);
            last = due == 99;
            if (last || seed < 10) {
                Due.is("noise(" + seed + ", 1)", two.wave("").noise(seed, 1), due);
            }
        }
        Due.yes("99 was the least once", last);
        Two first = new Two(127, 50, 50, -50, 50);
        boolean one = false;
        for (int seed = 0; seed < 20; seed++) {
            int due = first.leastAmount(seed, 1);
            one |= due == 1;
            Due.is("noise(" + seed + ", 1) beside the edge", first.wave("").noise(seed, 1), due);
        }
        Due.yes("1 was the least once", one);
        Due.is("EXP 0", two.wave("").noise(0, 0), 1);
    }

    @Edge("tells 5 at least")
    static void promise28JustFiveTimes() {
        Two two = new Two(127, 50, 0, 0, 50);
        boolean four = false;
        boolean five = false;
        for (int seed = 0; seed < 400 && !(four && five); seed++) {
            int times = two.times(seed, 1, 1, true);
            four |= times == 4;
            five |= times == 5;
            if (times == 4) {
                Due.yes("4 times by 1 is not enough: seed " + seed, two.wave("").noise(seed, 1) > 1);
            }
            if (times == 5) {
                Due.is("5 times by 1 is enough: seed " + seed, two.wave("").noise(seed, 1), 1);
            }
        }
        Due.yes("both were there", four && five);
    }

    @Edge("with a seed (-1, too)")
    static void promise28TheSeedOfTheText() {
        Two two = new Two(255, 20, -20, 20, 20);
        for (int seed : new int[] {0, 1, 99999}) {
            BlockWave w = two.wave("seed " + seed + ";");
            Due.is("by -1, seed " + seed, w.noise(-1, 1), two.leastAmount(seed, 1));
        }
        BlockWave w = two.wave("");
        Due.is("by -1, none told", w.noise(-1, 1), two.leastAmount(0, 1));
        Due.is("by the most", w.noise(MOST, 1), two.leastAmount(MOST, 1));
        w.beatAll();
        Due.stays("noise()", w, () -> Due.is("as they were", w.noise(-1, 1), two.leastAmount(0, 1)));
    }

    @Edge("-2: none")
    static void promise28None() {
        BlockWave still = Due.told("size 2;");
        Due.is("99 is too little", still.noise(0, 1), -2);
        Due.is("EXP 20", Due.told("size 32;bits 8;real 0 127;").noise(3, 20), -2);
        // 100 would be enough with some seeds.
        Two two = new Two(255, 20, -20, 20, 20);
        boolean enough = false;
        for (int seed = 0; seed < 20000 && !enough; seed++) {
            enough = two.leastAmount(seed, 1) == -2 && two.times(seed, 100, 1, true) >= 5;
            if (enough) {
                Due.is("100 is none of them", two.wave("").noise(seed, 1), -2);
            }
        }
        Due.yes("100 would have been enough once", enough);
        // 99 and 3 is 102 at most, which 9 bits hold unhalved.
        Due.is("just too little", Due.told("size 2;bits 9;real 0 3;side 0 3;less 1 3;down 1 3;").noise(9, 1), -2);
    }

    @Edge("NONE: no such ones.")
    static void promise28NoSuchOnes() {
        BlockWave w = Due.told("size 2;real 0 5;");
        Due.stays("no such ones", w, () -> {
            for (int seed : new int[] {-2, -3, LEAST, LEAST + 1}) {
                Due.is("noise(" + seed + ", 0)", w.noise(seed, 0), -1);
            }
            for (int exp : new int[] {-1, 21, -2, 22, LEAST, MOST}) {
                Due.is("noise(0, " + exp + ")", w.noise(0, exp), -1);
                Due.is("noise(-1, " + exp + ")", w.noise(-1, exp), -1);
            }
        });
    }

    @Edge("If more than one answer would be right, NONE goes ahead of -2.")
    static void promise28NoneGoesAhead() {
        BlockWave still = Due.told("size 2;");
        Due.is("none, and no such EXP", still.noise(0, 21), -1);
        Due.is("none, and no such seed", still.noise(-2, 20), -1);
    }
}
