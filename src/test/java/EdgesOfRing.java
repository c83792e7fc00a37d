/** Edges of promises 44 to 51: the ring of 97, notes told of it, what to ask. */
final class EdgesOfRing {
    private static final int[] SIZES = {2, 4, 8, 16, 32};
    private static final int[] ROOTS = {96, 22, 64, 8, 28};
    private static final int ALL = 0xFFFF;

    private EdgesOfRing() {
    }

    // ---- 44: bin

    @Edge("RING: whole numbers modulo 97 (0 .. 96; RE, IM as they were, below 0 too)")
    static void promise44RoundTheRing() {
        int[][] due = {{0, 0}, {1, 1}, {96, 96}, {97, 0}, {98, 1}, {194, 0}, {-1, 96}, {-96, 1}, {-97, 0}, {-98, 96}, {32767, 78}, {-32767, 19}};
        for (int[] one : due) {
            for (int place = 0; place < 2; place++) {
                BlockWave w = Due.told("size 2;");
                w.set(place, one[0], 55);
                Due.is("RE " + one[0], w.bin(0), one[1]);
                // The root of two points is 96: as much below 0 at place 1.
                Due.is("RE " + one[0] + " at " + place, w.bin(1), place == 0 ? one[1] : (97 - one[1]) % 97);
                w.beatAll();
                Due.is("as it was: RE " + one[0], w.bin(0), one[1]);
            }
        }
    }

    @Edge("ROOT: 28, 8, 64, 22, 96 for 32, 16, 8, 4, 2 POINTS.")
    static void promise44TheRootOfEachSizeGoesRound() {
        for (int i = 0; i < SIZES.length; i++) {
            BlockWave w = Due.told("size " + SIZES[i] + ";real 1 1;");
            int power = 1;
            for (int k = 0; k < SIZES[i]; k++) {
                Due.is("size " + SIZES[i] + " bin(" + k + ")", w.bin(k), power);
                power = power * ROOTS[i] % 97;
            }
            Due.is("round", power, 1);
            // The last times the last goes round many times, to the root itself.
            BlockWave last = Due.told("size " + SIZES[i] + ";real " + (SIZES[i] - 1) + " 1;");
            Due.is("size " + SIZES[i] + ", the last", last.bin(SIZES[i] - 1), ROOTS[i]);
        }
        BlockWave loud = Due.told("size 32;");
        for (int place = 0; place < 32; place++) {
            loud.set(place, -1, 0);
        }
        Due.is("all 96: bin(0)", loud.bin(0), 97 - 32);
        Due.is("all 96: bin(31)", loud.bin(31), 0);
    }

    @Edge("BIN; NONE: no such k.")
    static void promise44NoSuchK() {
        for (int size : SIZES) {
            BlockWave w = Due.told("size " + size + ";real 0 1;");
            for (int k : Due.outside(size)) {
                Due.is("size " + size + " bin(" + k + ")", w.bin(k), -1);
            }
            Due.is("size " + size + ", the last", w.bin(size - 1), 1);
        }
    }

    // ---- 45: fold

    @Edge("FOLD of k: the sum over n of RE at n times IM at (k less n, modulo N), in the RING.")
    static void promise45RoundTheEndAndTheRing() {
        for (int p = 0; p < 4; p++) {
            for (int q = 0; q < 4; q++) {
                BlockWave w = Due.told("size 4;less " + p + " 1;side " + q + " 98;");
                w.beatAll();
                for (int k = 0; k < 4; k++) {
                    Due.is("RE at " + p + ", IM at " + q + ": fold(" + k + ")", w.fold(k), k == (p + q) % 4 ? 96 : 0);
                }
            }
        }
        BlockWave loud = Due.told("size 32;");
        for (int place = 0; place < 32; place++) {
            loud.set(place, 32767, -32767);
        }
        // 32767 is 78: 32 times 78 times 19.
        Due.is("more than an int", loud.fold(31), 32 * 78 * 19 % 97);
        Due.is("97 times", Due.told("real 0 97;side 0 5;").fold(0), 0);
    }

    @Edge("FOLD; NONE: no such k.")
    static void promise45NoSuchK() {
        for (int size : SIZES) {
            BlockWave w = Due.told("size " + size + ";real 0 1;side 0 1;");
            for (int k : Due.outside(size)) {
                Due.is("size " + size + " fold(" + k + ")", w.fold(k), -1);
            }
            Due.is("size " + size + ", the last", w.fold(size - 1), 0);
        }
    }

    // ---- 46: unfold

    @Edge("RE at a place that BINS (one for each k) 0 but one, which is so much 0 .. 96, would come of, in the RING")
    static void promise46FromNothingTo96() {
        for (int i = 0; i < SIZES.length; i++) {
            int size = SIZES[i];
            BlockWave w = Due.told("size " + size + ";");
            for (int bin : new int[] {0, 1, 96}) {
                for (int k : new int[] {0, 1, size - 1}) {
                    BlockWave back = Due.told("size " + size + ";");
                    for (int place = 0; place < size; place++) {
                        back.set(place, back.unfold(k, bin, place), 0);
                    }
                    for (int other = 0; other < size; other++) {
                        Due.is("size " + size + ", " + bin + " at " + k + ": bin(" + other + ")", back.bin(other), other == k ? bin : 0);
                    }
                }
            }
            for (int k = 0; k < size; k++) {
                Due.is("of 0", w.unfold(k, 0, size - 1), 0);
            }
        }
        Due.is("1 by 2", Due.told("size 2;").unfold(0, 1, 0), 49);
        Due.is("96 by 2, at 1", Due.told("size 2;").unfold(1, 96, 1), 49);
    }

    @Edge("NONE: no such ones.")
    static void promise46NoSuchOnes() {
        for (int size : SIZES) {
            BlockWave w = Due.told("size " + size + ";");
            for (int no : Due.outside(size)) {
                Due.is("size " + size + " unfold(" + no + ", 1, 0)", w.unfold(no, 1, 0), -1);
                Due.is("size " + size + " unfold(0, 1, " + no + ")", w.unfold(0, 1, no), -1);
            }
            for (int bin : Due.outside(97)) {
                Due.is("size " + size + " unfold(0, " + bin + ", 0)", w.unfold(0, bin, 0), -1);
            }
        }
    }

    // ---- 47, 48: notes and strikes

    @Edge("NOTES (note), at most 24, numbered from 0 on: a BIN, RE as they were, is so much 0 .. 96 at least, or less.")
    static void promise47FromTheLeastToTheMost() {
        BlockWave w = Due.told("size 4;");
        Due.is("the first", w.note(0, 0, true), 0);
        Due.is("of the last BIN", w.note(3, 96, false), 1);
        Due.is("at least 0 and less than 96: all", w.values(0), ALL);
        Due.is("the next", w.note(0, 96, true), 2);
        Due.is("at least 96: none", w.values(0), 0);
        BlockWave less = Due.told("size 4;");
        Due.is("less than 0", less.note(0, 0, false), 0);
        Due.is("none is less than 0", less.values(0), 0);
        BlockWave just = Due.told("size 4;");
        just.note(0, 7, true);
        Due.is("7 at least: 7, too", just.values(0), 0xFF80);
        just.note(0, 9, false);
        Due.is("less than 9: 9 not", just.values(0), 0x0180);
    }

    @Edge("A NOTE: its number; NONE: no such ones, or there are 24 in all.")
    static void promise47NoSuchOnes() {
        for (int size : new int[] {2, 4, 8}) {
            BlockWave w = Due.told("size " + size + ";");
            Due.stays("no such notes", w, () -> {
                for (int k : Due.outside(size)) {
                    Due.is("size " + size + " note(" + k + ", 1, true)", w.note(k, 1, true), -1);
                    Due.is("size " + size + " note(" + k + ", 1, false)", w.note(k, 1, false), -1);
                }
                for (int bin : Due.outside(97)) {
                    Due.is("size " + size + " note(0, " + bin + ", true)", w.note(0, bin, true), -1);
                    Due.is("size " + size + " note(0, " + bin + ", false)", w.note(0, bin, false), -1);
                }
            });
            Due.is("the first yet", w.note(size - 1, 96, true), 0);
        }
        Due.is("of 32 points, no such BIN", Due.told("size 32;").note(32, 1, true), -1);
    }

    private static BlockWave full(boolean strikes) {
        BlockWave w = Due.told("size 4;");
        for (int number = 0; number < 24; number++) {
            boolean strike = strikes && number % 2 == 1;
            Due.is("number " + number, strike ? w.strike(number - 1) : w.note(0, 3, true), number);
        }
        return w;
    }

    @Edge("or there are 24 in all.")
    static void promise47Full() {
        for (boolean strikes : new boolean[] {false, true}) {
            BlockWave w = full(strikes);
            Due.stays("one note more", w, () -> Due.is("note, full", w.note(0, 5, true), -1));
            Due.is("24", w.count(10), 24);
            Due.is("24 known", w.count(11), 24);
            Due.tell(w, "");
            Due.is("a new text", w.note(0, 5, true), 0);
        }
    }

    @Edge("A STRIKE: its number; NONE: no such NOTE or STRIKE, or there are 24 in all.")
    static void promise48NoSuchNote() {
        BlockWave w = Due.told("size 4;");
        Due.is("nothing to strike", w.strike(0), -1);
        w.note(0, 3, true);
        Due.stays("no such notes", w, () -> {
            for (int note : Due.outside(1)) {
                Due.is("strike(" + note + ")", w.strike(note), -1);
            }
        });
        Due.is("strike(0)", w.strike(0), 1);
        Due.is("not itself to come", w.strike(2), -1);
        Due.is("a strike", w.strike(1), 2);
        Due.is("the last one", w.strike(2), 3);
        Due.is("one again", w.strike(0), 4);
    }

    @Edge("or there are 24 in all.")
    static void promise48Full() {
        for (boolean strikes : new boolean[] {false, true}) {
            BlockWave w = full(strikes);
            Due.stays("one strike more", w, () -> {
                Due.is("strike(0), full", w.strike(0), -1);
                Due.is("strike(23), full", w.strike(23), -1);
            });
        }
        BlockWave w = Due.told("size 4;");
        for (int number = 0; number < 23; number++) {
            w.note(0, 3, true);
        }
        Due.is("the 24th may be a strike", w.strike(22), 23);
        Due.is("no more", w.strike(22), -1);
    }

    // ---- 49, 50: known, values

    @Edge("KNOWN by n from now on (-1: by all, also those to come): true; false: no such n.")
    static void promise49ByNoneByAllAndThoseToCome() {
        BlockWave w = Due.told("size 4;");
        Due.yes("by none of none", w.known(0));
        w.note(0, 3, true);
        Due.is("by none yet", w.count(11), 0);
        Due.is("values by none", w.values(0), ALL);
        Due.yes("by all", w.known(-1));
        Due.is("values by all", w.values(0), 0xFFF8);
        w.note(0, 5, true);
        Due.is("those to come, too", w.count(11), 2);
        Due.is("values by those, too", w.values(0), 0xFFE0);
        Due.yes("by 2", w.known(2));
        w.note(0, 7, true);
        Due.is("by 2, not by those to come", w.count(11), 2);
        Due.is("values by 2", w.values(0), 0xFFE0);
        Due.yes("by 3, all there are", w.known(3));
        Due.is("values by 3", w.values(0), 0xFF80);
        Due.yes("by none", w.known(0));
        Due.is("values by none", w.values(0), ALL);
        BlockWave full = full(false);
        Due.yes("by 24", full.known(24));
        Due.is("24", full.count(11), 24);
    }

    @Edge("false: no such n.")
    static void promise49NoSuchN() {
        BlockWave w = Due.told("size 4;");
        Due.no("known(1) of none", w.known(1));
        w.note(0, 3, true);
        w.note(0, 5, true);
        w.known(1);
        Due.stays("no such n", w, () -> {
            for (int n : new int[] {-2, 3, -3, 24, 25, Integer.MIN_VALUE, Integer.MAX_VALUE}) {
                Due.no("known(" + n + ")", w.known(n));
            }
        });
        Due.is("by 1 yet", w.values(0), 0xFFF8);
        Due.no("known(25) of 24", full(false).known(25));
    }

    @Edge("KNOWN by n (all at first)")
    static void promise49AllAtFirst() {
        BlockWave w = new BlockWave();
        Due.is("none there", w.count(11), 0);
        w.note(0, 3, true);
        Due.is("one there", w.count(11), 1);
        w.known(0);
        Due.tell(w, "size 4;");
        w.note(0, 3, true);
        Due.is("all at first by a new text", w.count(11), 1);
    }

    @Edge("the first n that aren't STRUCK by one of these (a STRIKE may be STRUCK: then it doesn't count; asked from the last one on).")
    static void promise50StruckByOneOfTheseAlone() {
        BlockWave w = Due.told("size 4;");
        w.note(0, 3, true);
        w.strike(0);
        w.strike(1);
        w.strike(2);
        // Each strikes the one ahead: the note stands by 1, not by 2, by 3, not by 4.
        for (int n = 1; n <= 4; n++) {
            w.known(n);
            Due.is("by " + n, w.values(0), n % 2 == 1 ? 0xFFF8 : ALL);
        }
        BlockWave twice = Due.told("size 4;");
        twice.note(0, 3, true);
        twice.strike(0);
        twice.strike(0);
        twice.strike(1);
        Due.is("struck by another yet", twice.values(0), ALL);
        twice.strike(2);
        Due.is("both strikes struck", twice.values(0), 0xFFF8);
        BlockWave chain = Due.told("size 4;");
        chain.note(0, 3, true);
        chain.note(0, 5, true);
        chain.strike(1);
        Due.is("one of two struck", chain.values(0), 0xFFF8);
        chain.known(2);
        Due.is("not by a strike that isn't known", chain.values(0), 0xFFE0);
    }

    @Edge("VALUES of a POINT: 0 .. 15 (bits) in place of its RE, by which all KNOWN ones are so.")
    static void promise50From0To15() {
        BlockWave w = Due.told("size 2;real 0 500;");
        Due.is("without notes", w.values(0), ALL);
        w.note(0, 1, false);
        Due.is("0 alone", w.values(0), 0x0001);
        Due.tell(w, "size 2;real 0 500;");
        w.note(0, 15, true);
        Due.is("15 alone", w.values(0), 0x8000);
        w.note(0, 16, true);
        Due.is("16 is none of them", w.values(0), 0);
        // In place of RE at 1, beside 90: 95 and 96 are 5 and 6 more, 7 more is 0 again.
        Due.tell(w, "size 2;real 0 90;");
        w.note(0, 95, true);
        Due.is("up to 96", w.values(1), 0x0060);
        w.note(0, 96, false);
        Due.is("95 alone", w.values(1), 0x0020);
        Due.tell(w, "size 2;less 0 1;");
        w.note(0, 96, true);
        Due.is("below 0", w.values(1), 0x0001);
        w.beatAll();
        Due.is("as they were", w.values(1), 0x0001);
        // 3 and v is 10 at least; by what is there now, 7 and v would be.
        Due.tell(w, "size 2;real 0 3;real 1 4;");
        w.note(0, 10, true);
        w.beatAll();
        Due.is("as they were, not as they are", w.values(1), 0xFF80);
        // Of BIN 1 of two points, what is at place 1 is taken as much below 0.
        Due.tell(w, "size 2;real 0 15;");
        w.note(1, 1, false);
        Due.is("15 less 15", w.values(1), 0x8000);
    }

    @Edge("VALUES (bits); NONE: no such POINT.")
    static void promise50NoSuchPoint() {
        for (int size : SIZES) {
            BlockWave w = Due.told("size " + size + ";");
            for (int place : Due.outside(size)) {
                Due.is("size " + size + " values(" + place + ")", w.values(place), -1);
            }
            Due.is("size " + size + ", the last", w.values(size - 1), ALL);
        }
    }

    // ---- 51: ask

    private static void ask(BlockWave w, int place, int bin, int number, int left) {
        Due.is("ask(" + place + ", 0)", w.ask(place, 0), bin);
        Due.is("ask(" + place + ", 1)", w.ask(place, 1), number);
        Due.is("ask(" + place + ", 2)", w.ask(place, 2), left);
    }

    @Edge("ASK of a POINT: the BIN and the number 1 .. 96 by which, if one asks whether it is so much at least, "
            + "as few of VALUES as may be are left at worst")
    static void promise51NumbersFrom1To96() {
        BlockWave w = Due.told("size 2;");
        ask(w, 0, 0, 8, 8);
        w.note(0, 2, false);
        // 0 or 1.
        ask(w, 0, 0, 1, 1);
        w = Due.told("size 2;real 1 95;");
        w.note(0, 95, true);
        Due.is("0 or 1", w.values(0), 0x0003);
        ask(w, 0, 0, 96, 1);
        w = Due.told("size 2;real 1 96;");
        // As it was it is 3 .. 18, as it is now it would be 7 .. 22.
        BlockWave done = Due.done("size 2;real 0 3;real 1 4;");
        ask(done, 1, 0, 11, 8);
        // 96, then 0 .. 14: 8 of them are 8 at least, 96 being one of these.
        ask(w, 0, 0, 8, 8);
    }

    @Edge("of several the first by BINS, then by numbers.")
    static void promise51OfSeveralTheFirst() {
        // BIN 0 is 50 .. 65, BIN 1 is 47 .. 62: the first BIN, though 55 is less than 58.
        BlockWave w = Due.told("size 2;real 1 50;");
        ask(w, 0, 0, 58, 8);
        // 3 .. 6 and 12 .. 15 are 93 .. 96 and 5 .. 8 by BIN 0: any number 9 .. 93 does, any 14 .. 19 by BIN 1.
        w = Due.told("size 2;real 1 90;");
        w.note(0, 5, true);
        w.note(1, 10, true);
        Due.is("eight values", w.values(0), 0xF078);
        ask(w, 0, 0, 9, 4);
        // An odd one: 5 values, 3 or 2 of which are left; the first number leaves 3 at least, 2 below.
        w = Due.told("size 2;");
        w.note(0, 5, false);
        ask(w, 0, 0, 2, 3);
        ask(w, 1, 0, 2, 3);
    }

    @Edge("what 0: the BIN, 1: the number, 2: how many are left at worst (0 and 1 and 0, if there are none).")
    static void promise51IfThereAreNone() {
        for (int size : SIZES) {
            BlockWave w = Due.told("size " + size + ";real 0 40;");
            w.note(0, 0, false);
            ask(w, 0, 0, 1, 0);
            ask(w, size - 1, 0, 1, 0);
        }
        BlockWave one = Due.told("size 4;real 1 40;");
        one.note(0, 40, true);
        one.note(0, 41, false);
        Due.is("one value", one.values(0), 0x0001);
        ask(one, 0, 0, 1, 1);
    }

    @Edge("NONE: no such ones.")
    static void promise51NoSuchOnes() {
        for (int size : SIZES) {
            BlockWave w = Due.told("size " + size + ";");
            for (int place : Due.outside(size)) {
                for (int what = 0; what < 3; what++) {
                    Due.is("size " + size + " ask(" + place + ", " + what + ")", w.ask(place, what), -1);
                }
            }
            for (int what : Due.outside(3)) {
                Due.is("size " + size + " ask(0, " + what + ")", w.ask(0, what), -1);
            }
        }
    }
}
