/** Edges of promises that look at points and shapes, or change points ahead of the first stage. */
final class EdgesOfPoints {
    private static final int LEAST = Integer.MIN_VALUE;
    private static final int MOST = Integer.MAX_VALUE;
    private static final int[] SIZES = {2, 4, 8, 16, 32};
    private static final String[] SHAPES = {"", "radix 4;", "order 1;", "radix 4;order 1;"};
    private static final int[] COS = {16384, 16069, 15137, 13623, 11585, 9102, 6270, 3196, 0};

    private EdgesOfPoints() {
    }

    // ---- 5: point

    @Edge("Of what is at a place now, what 0 RE, 1 IM, 2 RE as it was, 3 IM as it was.")
    static void promise5TheFirstPlaceAndTheLast() {
        BlockWave w = Due.done("size 2;real 0 7;side 0 5;less 1 3;down 1 1;");
        int[][] due = {{4, 4, 7, 5}, {10, 6, -3, -1}};
        for (int place = 0; place < 2; place++) {
            for (int what = 0; what < 4; what++) {
                Due.is("point(" + place + ", " + what + ")", w.point(place, what), due[place][what]);
            }
        }
    }

    @Edge("IndexOutOfBoundsException: no such place.")
    static void promise5NoSuchPlace() {
        for (int size : SIZES) {
            BlockWave w = Due.told("size " + size + ";real 1 3;");
            for (int place : Due.outside(size)) {
                for (int what = 0; what < 4; what++) {
                    Due.is("size " + size + " point(" + place + ", " + what + ")", Due.thrownBy(w, place, what), 1);
                }
            }
            Due.is("the last of " + size, Due.thrownBy(w, size - 1, 3), 0);
        }
        BlockWave w = Due.told("size 2;real 1 3;");
        Due.stays("places that aren't there", w, () -> Due.is("point(2, 0)", Due.thrownBy(w, 2, 0), 1));
    }

    @Edge("NoSuchElementException: no such what.")
    static void promise5NoSuchWhat() {
        BlockWave w = Due.told("size 2;real 1 3;");
        Due.stays("whats that aren't there", w, () -> {
            for (int what : Due.outside(4)) {
                Due.is("point(0, " + what + ")", Due.thrownBy(w, 0, what), 2);
                Due.is("point(1, " + what + ")", Due.thrownBy(w, 1, what), 2);
            }
        });
    }

    // ---- 6: turn

    private static void cosines(int from, int to, int... due) {
        BlockWave w = Due.told("size 32;");
        for (int k = from; k <= to; k++) {
            Due.is("turn(" + k + ", 0)", w.turn(k, 0), due[k - from]);
        }
    }

    @Edge("COS of k (0 .. 31), in parts of 16384: of 0 .. 8: 16384, 16069, 15137, 13623, 11585, 9102, 6270, 3196, 0")
    static void promise6CosinesFrom0To8() {
        cosines(0, 8, COS);
    }

    @Edge("of 9 .. 16 that of (16 less k) below 0")
    static void promise6CosinesFrom9To16() {
        cosines(9, 16, -3196, -6270, -9102, -11585, -13623, -15137, -16069, -16384);
    }

    @Edge("of 17 .. 24 that of (k less 16) below 0")
    static void promise6CosinesFrom17To24() {
        cosines(17, 24, -16069, -15137, -13623, -11585, -9102, -6270, -3196, 0);
    }

    @Edge("of 25 .. 31 that of (32 less k).")
    static void promise6CosinesFrom25To31() {
        cosines(25, 31, 3196, 6270, 9102, 11585, 13623, 15137, 16069);
    }

    @Edge("SIN of k: COS of (k and 24, modulo 32).")
    static void promise6SinesRoundTheEnd() {
        BlockWave w = Due.told("size 32;");
        int[] sines = {0, 3196, 6270, 9102, 11585, 13623, 15137, 16069, 16384, 16069, 15137, 13623, 11585, 9102, 6270, 3196, 0,
            -3196, -6270, -9102, -11585, -13623, -15137, -16069, -16384, -16069, -15137, -13623, -11585, -9102, -6270, -3196};
        for (int k = 0; k < 32; k++) {
            Due.is("turn(" + k + ", 1)", w.turn(k, 1), -sines[k]);
        }
    }

    @Edge("TURN of j (0 .. N less 1, N being the size): COS and less SIN of (j times 32 by N).")
    static void promise6TheLastTurnOfEachSize() {
        int[] cos = {-16384, 0, 11585, 15137, 16069};
        int[] lessSin = {0, 16384, 11585, 6270, 3196};
        for (int i = 0; i < SIZES.length; i++) {
            BlockWave w = Due.told("size " + SIZES[i] + ";");
            Due.is("size " + SIZES[i] + ", the last COS", w.turn(SIZES[i] - 1, 0), cos[i]);
            Due.is("size " + SIZES[i] + ", the last less SIN", w.turn(SIZES[i] - 1, 1), lessSin[i]);
            Due.is("size " + SIZES[i] + ", the first COS", w.turn(0, 0), 16384);
            Due.is("size " + SIZES[i] + ", the first less SIN", w.turn(0, 1), 0);
            Due.is("size " + SIZES[i] + ", the half", w.turn(SIZES[i] / 2, 0), -16384);
        }
    }

    @Edge("Integer.MIN_VALUE: no such ones.")
    static void promise6NoSuchTurn() {
        for (int size : SIZES) {
            BlockWave w = Due.told("size " + size + ";");
            for (int j : Due.outside(size)) {
                Due.is("size " + size + " turn(" + j + ", 0)", w.turn(j, 0), LEAST);
                Due.is("size " + size + " turn(" + j + ", 1)", w.turn(j, 1), LEAST);
            }
            for (int what : Due.outside(2)) {
                Due.is("size " + size + " turn(0, " + what + ")", w.turn(0, what), LEAST);
            }
        }
    }

    // ---- 7: reversed; 30: digits

    @Edge("REVERSED place; NONE: no such place.")
    static void promise7TheEndsStayAndAllPlacesAreReached() {
        for (int size : SIZES) {
            for (String shape : SHAPES) {
                BlockWave w = Due.told("size " + size + ";" + shape);
                long reached = 0;
                for (int place = 0; place < size; place++) {
                    reached |= 1L << w.reversed(place);
                }
                String of = "size " + size + " " + shape;
                Due.is(of + " reaches all", reached, (1L << size) - 1);
                Due.is(of + " the first", w.reversed(0), 0);
                Due.is(of + " the last", w.reversed(size - 1), size - 1);
            }
        }
    }

    @Edge("NONE: no such place.")
    static void promise7NoSuchPlace() {
        for (int size : SIZES) {
            BlockWave w = Due.told("size " + size + ";");
            for (int place : Due.outside(size)) {
                Due.is("size " + size + " reversed(" + place + ")", w.reversed(place), -1);
            }
        }
    }

    @Edge("DIGITS of a place, R1 being the radix of the last STAGE, R2 that of the one ahead of it and so on (by both orders): "
            + "the place is d1 and R1 times (d2 and R2 times (d3 ..)), each digit less than its radix")
    static void promise30EachDigitIsLessThanItsRadix() {
        for (int size : SIZES) {
            for (String shape : SHAPES) {
                BlockWave w = Due.told("size " + size + ";" + shape);
                int last = w.count(5) - 1;
                for (int d = 0; d <= last; d++) {
                    Due.is("size " + size + " " + shape + " the last place, digit " + d, w.digit(size - 1, d), w.stage(last - d, 0) - 1);
                    Due.is("size " + size + " " + shape + " the first place, digit " + d, w.digit(0, d), 0);
                }
            }
        }
        BlockWave two = Due.told("size 32;radix 4;");
        int[] due = {2, 1, 1};
        BlockWave behind = Due.told("size 32;radix 4;order 1;");
        int[] dueBehind = {0, 3, 2};
        // 22 is 2 and 4 times (1 and 4 times 1), and 0 and 2 times (3 and 4 times 2).
        for (int d = 0; d < 3; d++) {
            Due.is("radices 2, 4, 4: digit(22, " + d + ")", two.digit(22, d), due[d]);
            Due.is("radices 4, 4, 2: digit(22, " + d + ")", behind.digit(22, d), dueBehind[d]);
        }
    }

    @Edge("NONE: no such ones.")
    static void promise30NoSuchDigit() {
        for (int size : SIZES) {
            for (String shape : SHAPES) {
                BlockWave w = Due.told("size " + size + ";" + shape);
                for (int place : Due.outside(size)) {
                    Due.is("size " + size + " " + shape + " digit(" + place + ", 0)", w.digit(place, 0), -1);
                }
                for (int d : Due.outside(w.count(5))) {
                    Due.is("size " + size + " " + shape + " digit(0, " + d + ")", w.digit(0, d), -1);
                }
                Due.is("size " + size + " " + shape + " the last digit", w.digit(0, w.count(5) - 1), 0);
            }
        }
    }

    // ---- 8: stages

    private static void radices(String text, int... due) {
        BlockWave w = Due.told(text);
        Due.is(text + " count(5)", w.count(5), due.length);
        for (int stage = 0; stage < due.length; stage++) {
            Due.is(text + " stage(" + stage + ", 0)", w.stage(stage, 0), due[stage]);
        }
        Due.is(text + " no more", w.stage(due.length, 0), -1);
    }

    @Edge("STAGES: N is 2 to the M. By radix 2: M of radix 2. By radix 4: if M is odd, one of radix 2, then "
            + "(by order 0; by order 1 it is the last one) M by 2, cut, of radix 4")
    static void promise8StagesOfEverySize() {
        radices("size 4;", 2, 2);
        radices("size 32;order 1;", 2, 2, 2, 2, 2);
        radices("size 4;radix 4;", 4);
        radices("size 8;radix 4;", 2, 4);
        radices("size 16;radix 4;", 4, 4);
        radices("size 32;radix 4;", 2, 4, 4);
        radices("size 4;radix 4;order 1;", 4);
        radices("size 8;radix 4;order 1;", 4, 2);
        radices("size 16;radix 4;order 1;", 4, 4);
        radices("size 32;radix 4;order 1;", 4, 4, 2);
    }

    @Edge("(so of 2 POINTS one of radix 2)")
    static void promise8OfTwoPointsOneOfRadixTwo() {
        for (String shape : SHAPES) {
            radices("size 2;" + shape, 2);
            BlockWave w = Due.told("size 2;" + shape);
            Due.is("reversed(1)", w.reversed(1), 1);
        }
    }

    private static final String LOUD = "size 4;bits 8;real 0 127;real 1 127;real 2 127;real 3 127;";

    @Edge("Of a STAGE, from 0 on, what 0 its radix, 1 how often all was HALVED in it")
    static void promise8HowOftenEachStageHalved() {
        BlockWave w = Due.done(LOUD);
        Due.is("stage(0, 1)", w.stage(0, 1), 2);
        Due.is("stage(1, 1)", w.stage(1, 1), 1);
        w = Due.done("size 4;");
        Due.is("nothing halved: stage(0, 1)", w.stage(0, 1), 0);
        Due.is("nothing halved: stage(1, 1)", w.stage(1, 1), 0);
    }

    @Edge("(BACK, if it goes or went BACK; -2: it isn't done yet)")
    static void promise8BackIfItGoesOrWentBack() {
        BlockWave w = Due.gone(LOUD);
        Due.is("no stage back: stage(0, 1)", w.stage(0, 1), -2);
        Due.is("no stage back: stage(1, 1)", w.stage(1, 1), -2);
        w.beat();
        Due.is("one back: stage(0, 1)", w.stage(0, 1), 1);
        Due.is("one back: stage(1, 1)", w.stage(1, 1), -2);
        w.beat();
        Due.is("gone back: stage(0, 1)", w.stage(0, 1), 1);
        Due.is("gone back: stage(1, 1)", w.stage(1, 1), 0);
    }

    @Edge("-2: it isn't done yet")
    static void promise8NotDoneYet() {
        BlockWave w = Due.told(LOUD);
        Due.is("stage(0, 1)", w.stage(0, 1), -2);
        Due.is("stage(1, 1)", w.stage(1, 1), -2);
        Due.is("its radix is there", w.stage(1, 0), 2);
        w.beat();
        Due.is("one done: stage(0, 1)", w.stage(0, 1), 2);
        Due.is("one done: stage(1, 1)", w.stage(1, 1), -2);
        w.undo();
        Due.is("undone: stage(0, 1)", w.stage(0, 1), -2);
    }

    @Edge("NONE: no such ones.")
    static void promise8NoSuchStage() {
        for (int size : SIZES) {
            for (String shape : SHAPES) {
                BlockWave w = Due.told("size " + size + ";" + shape);
                for (int stage : Due.outside(w.count(5))) {
                    Due.is("size " + size + " " + shape + " stage(" + stage + ", 0)", w.stage(stage, 0), -1);
                }
                for (int what : Due.outside(2)) {
                    Due.is("size " + size + " " + shape + " stage(0, " + what + ")", w.stage(0, what), -1);
                }
            }
        }
    }

    @Edge("If more than one answer would be right, NONE goes ahead of -2.")
    static void promise8NoneGoesAhead() {
        BlockWave w = Due.told(LOUD);
        Due.is("no such stage, none done", w.stage(2, 1), -1);
        Due.is("no such stage, none done", w.stage(-1, 1), -1);
        Due.is("no such what, none done", w.stage(0, 2), -1);
        w.beat();
        Due.is("no such stage, one done", w.stage(2, 1), -1);
    }

    // ---- 9: set

    @Edge("A POINT is RE, IM now (as it was, too), if no STAGE is done: true")
    static void promise9NowAndAsItWas() {
        BlockWave w = Due.told("size 4;real 0 9;side 3 9;");
        Due.yes("set(0, 1, -2)", w.set(0, 1, -2));
        Due.yes("set(3, -3, 4)", w.set(3, -3, 4));
        int[] due = {1, -2, 0, 0, 0, 0, -3, 4};
        for (int i = 0; i < 8; i++) {
            Due.is("now " + i, w.point(i / 2, i % 2), due[i]);
            Due.is("as it was " + i, w.point(i / 2, 2 + i % 2), due[i]);
        }
    }

    @Edge("false: no such POINT")
    static void promise9NoSuchPoint() {
        for (int size : new int[] {2, 4, 8}) {
            BlockWave w = Due.told("size " + size + ";real 1 5;");
            Due.stays("points that aren't there", w, () -> {
                for (int place : Due.outside(size)) {
                    Due.no("size " + size + " set(" + place + ", 1, 1)", w.set(place, 1, 1));
                }
            });
        }
        Due.no("of 32", Due.told("size 32;").set(32, 1, 1));
        Due.yes("the last of 32", Due.told("size 32;").set(31, 1, 1));
    }

    @Edge("no such numbers (LIMIT at most, as much below 0)")
    static void promise9NumbersUpToLimit() {
        for (int bits = 8; bits <= 16; bits++) {
            int limit = (1 << bits - 1) - 1;
            BlockWave w = Due.told("size 2;bits " + bits + ";");
            Due.stays("numbers beyond LIMIT", w, () -> {
                for (int far : new int[] {limit + 1, -limit - 1, MOST, LEAST, LEAST + 1, 65536 + 1, 1 << 30}) {
                    Due.no("RE " + far, w.set(0, far, 0));
                    Due.no("IM " + far, w.set(0, 0, far));
                }
            });
            Due.yes("LIMIT", w.set(0, limit, limit));
            Due.yes("as much below 0", w.set(1, -limit, -limit));
            Due.is("it is there", w.point(1, 1), -limit);
        }
    }

    @Edge("a STAGE is done, it went BACK")
    static void promise9AStageIsDone() {
        BlockWave w = Due.told("size 4;real 1 5;");
        w.beat();
        Due.stays("set(), one stage done", w, () -> Due.no("one done", w.set(0, 1, 1)));
        w.beat();
        Due.stays("set(), all done", w, () -> Due.no("all done", w.set(0, 1, 1)));
        w.undo();
        w.undo();
        Due.yes("all undone", w.set(0, 1, 1));
    }

    @Edge("a STAGE is done, it went BACK")
    static void promise9ItWentBack() {
        BlockWave w = Due.gone("size 4;real 1 5;");
        Due.stays("set(), no stage back", w, () -> Due.no("no stage back", w.set(0, 1, 1)));
        w.beat();
        Due.no("one stage back", w.set(0, 1, 1));
        w.beat();
        Due.stays("set(), gone back", w, () -> Due.no("gone back", w.set(0, 1, 1)));
    }

    // ---- 14, 15: largest, left; 34: room

    @Edge("LARGEST: the greatest of all RE, IM, those below 0 taken as much above it.")
    static void promise14BelowAndAbove0() {
        Due.is("nothing there", new BlockWave().largest(), 0);
        Due.is("RE", Due.told("real 7 9;side 3 8;").largest(), 9);
        Due.is("RE below 0", Due.told("less 0 9;real 3 8;").largest(), 9);
        Due.is("IM", Due.told("side 7 9;real 3 8;").largest(), 9);
        Due.is("IM below 0", Due.told("down 0 9;side 3 8;").largest(), 9);
        Due.is("LIMIT below 0", Due.told("bits 8;less 3 127;").largest(), 127);
        Due.is("now, not as it was", Due.done("size 2;real 0 3;real 1 4;").largest(), 7);
    }

    @Edge("LEFT: how many times LARGEST could be doubled so that it is LIMIT at most, 15 at most (15, if it is 0).")
    static void promise15UpToLimitJust() {
        for (int bits = 8; bits <= 16; bits++) {
            int limit = (1 << bits - 1) - 1;
            for (int times = 0; times <= bits - 2; times++) {
                // The greatest that can be doubled so often, and one more.
                int most = limit >> times;
                BlockWave w = Due.told("size 2;bits " + bits + ";");
                w.set(1, 0, -most);
                Due.is("bits " + bits + ", " + most, w.left(), times);
                if (most < limit) {
                    w.set(1, most + 1, 0);
                    Due.is("bits " + bits + ", " + (most + 1), w.left(), times - 1);
                }
            }
        }
    }

    @Edge("15 at most (15, if it is 0)")
    static void promise15FifteenIfItIs0() {
        for (int bits = 8; bits <= 16; bits++) {
            BlockWave w = Due.told("bits " + bits + ";");
            Due.is("bits " + bits + ", 0", w.left(), 15);
            w.set(0, 1, 0);
            Due.is("bits " + bits + ", 1", w.left(), bits - 2);
        }
    }

    @Edge("a BLOCK of so many in a row (2, 4, 8, 16, 32, size at most; BLOCKS from 0 on)")
    static void promise34BlocksFromTheFirstToTheLast() {
        for (int size : SIZES) {
            BlockWave w = Due.told("size " + size + ";");
            for (int of = 2; of <= size; of *= 2) {
                int last = size / of - 1;
                w.set(size - of, 16384, 0);
                Due.is("size " + size + ", the first of the last block of " + of, w.room(last, of), 0);
                w.set(size - of, 0, 0);
                w.set(size - 1, 0, -8192);
                Due.is("size " + size + ", the last of the last block of " + of, w.room(last, of), 1);
                Due.is("size " + size + ", one block of " + of + " more", w.room(last + 1, of), -1);
                if (last > 0) {
                    Due.is("size " + size + ", the block of " + of + " ahead", w.room(last - 1, of), 15);
                    Due.is("size " + size + ", the first block of " + of, w.room(0, of), 15);
                }
                w.set(size - 1, 0, 0);
            }
        }
    }

    @Edge("could all be doubled so that they are LIMIT at most, 15 at most")
    static void promise34UpToLimitJust() {
        BlockWave w = Due.told("size 4;bits 8;real 0 63;real 1 1;less 2 64;side 3 1;");
        Due.is("63 by 127", w.room(0, 2), 1);
        Due.is("64 by 127", w.room(1, 2), 0);
        Due.is("both", w.room(0, 4), 0);
        w.set(2, 0, 0);
        w.set(3, 0, 0);
        Due.is("0", w.room(1, 2), 15);
        Due.is("1", Due.told("size 2;side 1 1;").room(0, 2), 14);
        Due.is("now, not as it was", Due.done("size 2;bits 8;real 0 40;real 1 30;").room(0, 2), 0);
    }

    @Edge("NONE: no such ones.")
    static void promise34NoSuchBlock() {
        for (int size : SIZES) {
            BlockWave w = Due.told("size " + size + ";");
            for (int of : new int[] {0, 1, 3, 5, 6, 7, 9, 12, 15, 17, 24, 31, 33, 64, -1, -2, -4, -32, LEAST, MOST, 1 << 30}) {
                Due.is("size " + size + " room(0, " + of + ")", w.room(0, of), -1);
            }
            for (int of = 2 * size; of <= 64; of *= 2) {
                Due.is("size " + size + " room(0, " + of + ")", w.room(0, of), -1);
            }
            // Blocks so far out that block times length would wrap around to one that is there.
            for (int of = 2; of <= size; of *= 2) {
                for (int block : new int[] {-1, -2, size / of, size, 33, LEAST, MOST, 1 << 27, 1 << 28, 1 << 29, 1 << 30, 1 << 31}) {
                    Due.is("size " + size + " room(" + block + ", " + of + ")", w.room(block, of), -1);
                }
            }
        }
    }

    // ---- 21, 27: energies

    @Edge("ENERGY now (what 0), of the POINTS as they were (1); NONE for another what.")
    static void promise21TheGreatestEnergyAndNone() {
        Due.is("nothing there", new BlockWave().energy(0), 0);
        BlockWave w = Due.told("size 32;");
        for (int place = 0; place < 32; place++) {
            w.set(place, 32767, -32767);
        }
        Due.is("all there can be, now", w.energy(0), 64L * 32767 * 32767);
        w.beatAll();
        Due.is("all there can be, as it was", w.energy(1), 64L * 32767 * 32767);
        BlockWave done = Due.done("size 2;real 0 3;down 1 4;real 1 2;");
        // 3 and 2 are 5 and 1, 4 is 4 and 4.
        Due.is("now", done.energy(0), 25 + 1 + 16 + 16);
        Due.is("as it was", done.energy(1), 9 + 16 + 4);
    }

    @Edge("NONE for another what.")
    static void promise21AnotherWhat() {
        BlockWave w = Due.told("real 0 3;");
        for (int what : Due.outside(2)) {
            Due.is("energy(" + what + ")", w.energy(what), -1);
        }
    }

    @Edge("Of how many places the squares of RE and IM now come to so much 0 .. 2147483647 at least")
    static void promise27AsMuchJust() {
        BlockWave w = Due.told("size 4;real 0 3;down 0 4;less 1 5;side 2 1;");
        int[][] due = {{0, 4}, {1, 3}, {2, 2}, {24, 2}, {25, 2}, {26, 0}, {MOST, 0}};
        for (int[] one : due) {
            Due.is("over(" + one[0] + ")", w.over(one[0]), one[1]);
        }
        BlockWave loud = Due.told("size 2;less 0 32767;down 0 32767;");
        Due.is("over 2147352578", loud.over(2147352578), 1);
        Due.is("over 2147352579", loud.over(2147352579), 0);
        Due.is("over the most", loud.over(MOST), 0);
        Due.is("now, not as it was", Due.done("size 2;real 0 3;").over(9), 2);
        Due.is("now, not as it was, beside", Due.done("size 2;side 0 3;").over(9), 2);
    }

    @Edge("NONE: no such number.")
    static void promise27NoSuchNumber() {
        BlockWave w = Due.told("size 4;real 0 3;");
        Due.is("over(-1)", w.over(-1), -1);
        Due.is("over(-2)", w.over(-2), -1);
        Due.is("over the least", w.over(LEAST), -1);
    }

    // ---- 24, 25, 39, 40: all points

    @Edge("Each POINT (as it was, too), if no STAGE is done and it didn't go BACK, RE and IM, is so much times "
            + "(16384 less COS of TURN of its number) by 32768, rounded as by CUT or by NEAREST (with 16384 added): true")
    static void promise24RoundedAtAHalf() {
        // Of 4 points the weights are 0, a half, 1, a half.
        BlockWave w = Due.told("size 4;real 0 32767;down 0 32767;real 1 5;down 1 5;real 2 32767;down 2 32767;less 3 1;side 3 1;");
        Due.yes("taper()", w.taper());
        int[] nearest = {0, 0, 3, -2, 32767, -32767, 0, 1};
        Due.points("nearest", w, nearest);
        for (int i = 0; i < 8; i++) {
            Due.is("nearest, as it was " + i, w.point(i / 2, 2 + i % 2), nearest[i]);
        }
        w = Due.told("size 4;near 0;real 0 32767;down 0 32767;real 1 5;down 1 5;real 2 32767;down 2 32767;less 3 1;side 3 1;");
        Due.yes("taper()", w.taper());
        Due.points("cut", w, 0, 0, 2, -3, 32767, -32767, -1, 0);
        w = Due.told("size 2;real 0 5;real 1 5;");
        w.taper();
        Due.points("of two", w, 0, 0, 5, 0);
    }

    @Edge("is so much times (16384 less COS of TURN of its number) by 32768")
    static void promise24FromTheFirstPointToTheLast() {
        for (int size : SIZES) {
            BlockWave w = Due.told("size " + size + ";");
            for (int place = 0; place < size; place++) {
                w.set(place, 16384, -16384);
            }
            Due.yes("size " + size + " taper()", w.taper());
            for (int place = 0; place < size; place++) {
                double weight = (1 - Math.cos(2 * Math.PI * place / size)) / 2;
                Due.yes("size " + size + ", RE of " + place, Math.abs(w.point(place, 0) - 16384 * weight) < 1.5);
                Due.yes("size " + size + ", IM of " + place, Math.abs(w.point(place, 1) + 16384 * weight) < 1.5);
            }
        }
    }

    @Edge("rounded as by CUT or by NEAREST (with 16384 added)")
    static void promise24RoundedBesideAHalf() {
        // 4799 times 25281 ends 1 below a half of 32768 behind 3702; times 16384 it is a half behind 2399.
        BlockWave w = Due.told("size 8;real 1 25281;side 1 16384;less 7 16384;");
        w.taper();
        Due.is("just below a half", w.point(1, 0), 3702);
        Due.is("a half", w.point(1, 1), 2400);
        Due.is("a half below 0", w.point(7, 0), -2399);
        w = Due.told("size 8;near 0;real 1 8897;side 1 16384;less 7 16384;");
        w.taper();
        // 4799 times 8897 is 1 less than 1303 times 32768.
        Due.is("cut, 1 below", w.point(1, 0), 1302);
        Due.is("cut, a half", w.point(1, 1), 2399);
        Due.is("cut, a half below 0", w.point(7, 0), -2400);
    }

    /** Calls that need that no stage is done; which: 0 taper, 1 shift, 2 louder, 3 turnRound. */
    private static boolean change(BlockWave w, int which) {
        switch (which) {
            case 0: return w.taper();
            case 1: return w.shift(1);
            case 2: return w.louder(2);
            default: return w.turnRound();
        }
    }

    private static void refusedBehindAStage(int which) {
        BlockWave w = Due.told("size 4;real 1 5;side 2 3;");
        w.beat();
        Due.stays("one stage done", w, () -> Due.no("one stage done", change(w, which)));
        w.beat();
        Due.stays("all done", w, () -> Due.no("all done", change(w, which)));
        w.undo();
        w.undo();
        Due.yes("all undone", change(w, which));
    }

    private static void refusedWhenGoneBack(int which) {
        BlockWave w = Due.gone("size 4;real 1 5;side 2 3;");
        Due.stays("no stage back", w, () -> Due.no("no stage back", change(w, which)));
        w.beat();
        Due.no("one stage back", change(w, which));
        w.beat();
        Due.stays("gone back", w, () -> Due.no("gone back", change(w, which)));
    }

    @Edge("false: a STAGE is done, it went BACK.")
    static void promise24AStageIsDone() {
        refusedBehindAStage(0);
    }

    @Edge("false: a STAGE is done, it went BACK.")
    static void promise24ItWentBack() {
        refusedWhenGoneBack(0);
    }

    @Edge("All POINTS (as they were, too) go so many places 1 .. 31 on, from the end to the beginning, likewise: true")
    static void promise25FromTheEndToTheBeginning() {
        for (int size : SIZES) {
            for (int places : new int[] {1, 2, size - 1, size, size + 1, 30, 31}) {
                if (places > 31) {
                    continue;
                }
                BlockWave w = Due.told("size " + size + ";real 0 5;down " + (size - 1) + " 7;");
                Due.yes("size " + size + " shift(" + places + ")", w.shift(places));
                int first = places % size;
                int last = (size - 1 + places) % size;
                Due.is("size " + size + ", the first by " + places, w.point(first, 0), 5);
                Due.is("size " + size + ", the first as it was by " + places, w.point(first, 2), 5);
                Due.is("size " + size + ", the last by " + places, w.point(last, 1), -7);
                Due.is("size " + size + ", the last as it was by " + places, w.point(last, 3), -7);
                Due.is("size " + size + ", nothing else by " + places, w.energy(0), 74);
                Due.is("can be undone", w.count(12), 1);
            }
        }
    }

    @Edge("false: no such number, a STAGE is done, it went BACK.")
    static void promise25NoSuchNumber() {
        for (String size : new String[] {"size 2;", "size 8;"}) {
            BlockWave w = Due.told(size + "real 0 5;side 1 4;");
            Due.stays("no such numbers", w, () -> {
                for (int places : new int[] {0, 32, -1, 33, -31, 64, LEAST, MOST}) {
                    Due.no("shift(" + places + ")", w.shift(places));
                }
            });
        }
        Due.no("of 32 points", Due.told("size 32;").shift(32));
    }

    @Edge("a STAGE is done, it went BACK.")
    static void promise25AStageIsDone() {
        refusedBehindAStage(1);
    }

    @Edge("a STAGE is done, it went BACK.")
    static void promise25ItWentBack() {
        refusedWhenGoneBack(1);
    }

    @Edge("All POINTS (as they were, too) are 2 .. 9 times as much, if no STAGE is done, it didn't go BACK "
            + "and nothing is above LIMIT by that: true")
    static void promise39UpToLimitJust() {
        for (int times = 2; times <= 9; times++) {
            for (int bits : new int[] {8, 9, 16}) {
                int limit = (1 << bits - 1) - 1;
                int most = limit / times;
                BlockWave w = Due.told("size 2;bits " + bits + ";");
                w.set(0, most, -most);
                Due.yes(most + " by " + times, w.louder(times));
                Due.points(most + " by " + times, w, most * times, -most * times, 0, 0);
                Due.is("as it was", w.point(0, 2), most * times);
                Due.is("as it was beside", w.point(0, 3), -most * times);
            }
        }
        BlockWave w = Due.told("bits 9;real 7 85;");
        Due.yes("LIMIT itself", w.louder(3));
        Due.is("255", w.point(7, 0), 255);
        Due.yes("nothing there", new BlockWave().louder(9));
        for (int size : SIZES) {
            BlockWave ends = Due.told("size " + size + ";real 0 5;down " + (size - 1) + " 7;");
            Due.yes("size " + size + ", louder(9)", ends.louder(9));
            Due.is("size " + size + ", the first", ends.point(0, 0), 45);
            Due.is("size " + size + ", the last", ends.point(size - 1, 1), -63);
        }
    }

    @Edge("false: it can't be, no such number.")
    static void promise39AboveLimit() {
        for (int times = 2; times <= 9; times++) {
            int more = 127 / times + 1;
            for (String word : new String[] {"real", "less", "side", "down"}) {
                for (int place = 0; place < 2; place++) {
                    BlockWave w = Due.told("size 2;bits 8;" + word + " " + place + " " + more + ";");
                    // One beside it that could be louder stays, too.
                    w.set(1 - place, 3, -3);
                    int by = times;
                    Due.stays("louder", w, () -> Due.no(word + " " + more + " by " + by, w.louder(by)));
                }
            }
        }
    }

    @Edge("false: it can't be, no such number.")
    static void promise39NoSuchNumber() {
        BlockWave w = Due.told("size 2;real 0 1;");
        Due.stays("no such numbers", w, () -> {
            for (int times : new int[] {1, 10, 0, -1, -2, 11, LEAST, MOST}) {
                Due.no("louder(" + times + ")", w.louder(times));
            }
        });
        BlockWave nothing = new BlockWave();
        Due.no("louder(10) of nothing", nothing.louder(10));
        Due.no("louder(1) of nothing", nothing.louder(1));
    }

    @Edge("if no STAGE is done, it didn't go BACK")
    static void promise39AStageIsDone() {
        refusedBehindAStage(2);
    }

    @Edge("if no STAGE is done, it didn't go BACK")
    static void promise39ItWentBack() {
        refusedWhenGoneBack(2);
    }

    @Edge("What is at a place goes to (N less it, modulo N), all POINTS, as they were, too")
    static void promise40TheFirstAndTheHalfStay() {
        for (int size : SIZES) {
            for (int place = 0; place < size; place++) {
                BlockWave w = Due.told("size " + size + ";real " + place + " 5;down " + place + " 3;");
                Due.yes("turnRound()", w.turnRound());
                int there = place == 0 ? 0 : size - place;
                Due.is("size " + size + ", RE of " + place, w.point(there, 0), 5);
                Due.is("size " + size + ", IM of " + place, w.point(there, 1), -3);
                Due.is("size " + size + ", RE as it was of " + place, w.point(there, 2), 5);
                Due.is("size " + size + ", IM as it was of " + place, w.point(there, 3), -3);
                Due.is("size " + size + ", nothing else", w.energy(0) + w.energy(1), 68);
            }
        }
    }

    @Edge("false: a STAGE is done, it went BACK.")
    static void promise40AStageIsDone() {
        refusedBehindAStage(3);
    }

    @Edge("false: a STAGE is done, it went BACK.")
    static void promise40ItWentBack() {
        refusedWhenGoneBack(3);
    }
}
