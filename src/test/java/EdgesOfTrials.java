/** Edges of promises that run the points, as they were, otherwise: 16, 20, 22, 23, 29, 32, 38, 53. */
final class EdgesOfTrials {
    private static final int[] SIZES = {2, 4, 8, 16, 32};

    private EdgesOfTrials() {
    }

    /** 32 points of 4: from stage to stage 4, 8, 16, 32, 64, which the fifth stage alone must halve by 8 bits. */
    private static BlockWave fifthHalves() {
        BlockWave w = Due.told("size 32;bits 8;");
        for (int place = 0; place < 32; place++) {
            w.set(place, 4, 0);
        }
        return w;
    }

    // ---- 16: bits

    /** By how many bits nothing is halved: most[0] is the greatest value that 8 bits can hold so, and so on. */
    private static void bits(String text, int... most) {
        for (int i = 0; i < most.length; i++) {
            BlockWave w = Due.told(text);
            w.set(1, most[i], 0);
            Due.is(text + " bits() of " + most[i], w.bits(), 8 + i);
            w.set(1, 0, -most[i] - 1);
            Due.is(text + " bits() of " + (most[i] + 1) + " below 0, beside", w.bits(), i == 8 ? -2 : 9 + i);
        }
    }

    @Edge("BITS: the least bits 8 .. 16 by which (LIMIT by these, all else as told), from the POINTS as they were on, "
            + "nothing is HALVED by any STAGE forward.")
    static void promise16TheLeastBits() {
        bits("size 2;", 50, 102, 204, 409, 818, 1638, 3276, 6553, 13106);
        bits("size 2;order 1;", 42, 85, 170, 341, 682, 1365, 2730, 5461, 10922);
        bits("size 4;radix 4;", 21, 42, 85, 170, 341, 682, 1365, 2730, 5461);
        Due.is("nothing there", new BlockWave().bits(), 8);
    }

    @Edge("from the POINTS as they were on, nothing is HALVED by any STAGE forward.")
    static void promise16AnyStageAndAsTheyWere() {
        BlockWave w = Due.told("size 4;bits 8;real 0 50;real 2 50;");
        // 50 and 50 is 100 at the second stage, which only 9 bits hold.
        Due.is("told", w.bits(), 9);
        w.beatAll();
        Due.is("done", w.bits(), 9);
        w.turnBack();
        w.beatAll();
        Due.stays("bits()", w, () -> Due.is("gone back", w.bits(), 9));
        Due.is("the fifth stage, too", fifthHalves().bits(), 9);
    }

    @Edge("BITS; -2: not by 16.")
    static void promise16NotBy16() {
        Due.is("13106", Due.told("size 2;real 0 13106;").bits(), 16);
        Due.is("13107", Due.told("size 2;real 0 13107;").bits(), -2);
        Due.is("LIMIT", Due.told("size 2;down 1 32767;").bits(), -2);
        Due.is("by the last stage alone", Due.told("size 4;real 0 7000;real 2 7000;").bits(), -2);
    }

    // ---- 20: orders apart

    @Edge("ORDERS APART: how far RE or IM at any place are from each other, by both orders, run forward from the POINTS as they were "
            + "(times 2 to the EXP each), at most.")
    static void promise20FromNothingApartOn() {
        Due.is("nothing there", new BlockWave().apart(), 0);
        Due.is("nothing halved", Due.told("size 2;bits 8;real 0 42;").apart(), 0);
        Due.is("halved alike", Due.told("size 2;bits 8;real 0 127;").apart(), 0);
        for (String order : new String[] {"", "order 1;"}) {
            // 43 stays by order 0, by order 1 it is 22 times 2; below 0 it is 21 times 2.
            Due.is("RE", Due.told("size 2;bits 8;real 0 43;" + order).apart(), 1);
            Due.is("RE below 0", Due.told("size 2;bits 8;less 1 43;" + order).apart(), 1);
            Due.is("IM", Due.told("size 2;bits 8;side 1 43;" + order).apart(), 1);
            // 43 and 1 by order 0; 22 and 1 is 23, twice 46: 2 apart at one place, none at the other.
            BlockWave w = Due.told("size 2;bits 8;real 0 43;real 1 1;" + order);
            Due.is("at most", w.apart(), 2);
            w.beatAll();
            Due.is("as they were", w.apart(), 2);
        }
        Due.is("all five stages", fifthHalves().apart(), 0);
    }

    // ---- 22: grown

    @Edge("LARGEST behind so many STAGES 0 .. 5 (no more than there are) forward from the POINTS as they were, if nothing were HALVED")
    static void promise22NoMoreThanThereAre() {
        int[] due = {127, 254, 507, 507, 507, 507};
        BlockWave w = Due.told("size 4;bits 8;real 0 127;real 1 127;real 2 127;real 3 126;");
        for (int times = 0; times < 3; times++) {
            for (int stages = 0; stages <= 5; stages++) {
                Due.is("grown(" + stages + ")", w.grown(stages), due[stages]);
            }
            w.beatAll();
            w.turnBack();
        }
        BlockWave loud = Due.told("size 32;");
        for (int place = 0; place < 32; place++) {
            loud.set(place, -32767, 32767);
        }
        for (int stages = 0; stages <= 5; stages++) {
            Due.is("of all there can be: grown(" + stages + ")", loud.grown(stages), 32767 << stages);
        }
        Due.is("of two points: grown(5)", Due.told("size 2;real 0 5;real 1 6;").grown(5), 11);
    }

    @Edge("NONE: no such number.")
    static void promise22NoSuchNumber() {
        BlockWave w = Due.told("size 4;real 0 3;");
        for (int stages : Due.outside(6)) {
            Due.is("grown(" + stages + ")", w.grown(stages), -1);
        }
    }

    // ---- 23: returned

    @Edge("The greatest of how far RE, IM are from the POINTS as they were, each taken 2 to the M times")
    static void promise23FromNothingOn() {
        for (int size : SIZES) {
            Due.is("nothing there", Due.told("size " + size + ";").returned(), 0);
            Due.is("exact", Due.told("size " + size + ";real 0 3;down 0 4;").returned(), 0);
        }
        // 51 is 26 with EXP 1, back 52: 104, where 51 taken twice is 102.
        for (String word : new String[] {"real 0", "less 1", "side 1", "down 0"}) {
            BlockWave w = Due.told("size 2;bits 8;" + word + " 51;");
            Due.is(word, w.returned(), 2);
            w.beatAll();
            Due.is(word + ", as they were", w.returned(), 2);
        }
    }

    @Edge("(what is there taken as many times as 2 to all EXP by then, of STAGES forward and BACK together, ahead of M less)")
    static void promise23AllExpAheadOfMLess() {
        // 127 four times is 64 with EXP 3 at note 0; back it is 32 with EXP 4: 512, where 4 times 127 is 508.
        BlockWave w = Due.told("size 4;bits 8;real 0 127;real 1 127;real 2 127;real 3 127;");
        Due.is("halved forward and back", w.returned(), 4);
        w.beatAll();
        w.turnBack();
        w.beatAll();
        Due.stays("returned()", w, () -> Due.is("gone back", w.returned(), 4));
        // 100 and 3 are 50 and 2 with EXP 1: 52 and 48, back 26 and 24 with EXP 2: 50 and 2, taken 4 times 200 and 8, where 3 is 6.
        Due.is("halved forward", Due.told("size 2;bits 8;real 0 100;real 1 3;").returned(), 2);
        // 51 and 50 are 26 and 25 with EXP 1: 51 and 1, back 26 and 1 with EXP 2: 27 and 25, taken 4 times 108 and 100, where 51 is 102.
        Due.is("halved back", Due.told("size 2;bits 8;real 0 51;real 1 50;").returned(), 6);
        // IM is below 0 on the way back: 51 and 1 are 25 and 0 then, back 25 and 25: 100 and 100.
        Due.is("halved back, beside", Due.told("size 2;bits 8;side 0 51;side 1 50;").returned(), 2);
    }

    // ---- 29: best

    @Edge("Of all eight ways (4 times order, 2 of radix 4, near) that by which the greatest OFF, DONE forward from the POINTS as they were, "
            + "is least, the first of several.")
    static void promise29TheFirstOfSeveral() {
        Due.is("all alike", new BlockWave().best(), 0);
        Due.is("all alike, whatever is told", Due.told("order 1;radix 4;near 1;").best(), 0);
        // By nearest all are alike, by cut all are worse.
        Due.is("four alike", Due.told("size 8;real 1 1;").best(), 1);
        Due.is("four alike, whatever is told", Due.told("size 8;real 1 1;near 0;order 1;radix 4;").best(), 1);
        Due.is("all alike by five stages", fifthHalves().best(), 0);
    }

    @Edge("Of all eight ways (4 times order, 2 of radix 4, near)")
    static void promise29EachWayIsTheBestOfSome() {
        String[] texts = {"size 16;bits 8;real 0 17;real 1 88;less 2 103;", "size 8;bits 8;less 0 19;real 1 20;real 2 70;real 3 116;",
            "size 8;bits 8;real 0 114;less 1 96;real 2 92;real 3 98;", "size 8;bits 8;less 0 26;real 1 112;less 2 90;real 3 92;",
            "size 8;bits 8;less 0 71;less 1 49;less 2 36;real 3 10;", "size 8;bits 8;real 0 11;less 1 55;real 2 41;less 3 83;",
            "size 8;bits 8;less 0 24;real 1 76;less 2 62;real 3 86;", "size 8;bits 8;less 0 64;less 1 48;real 2 109;less 3 18;"};
        for (int way = 0; way < 8; way++) {
            BlockWave w = Due.told(texts[way]);
            Due.is("best() of " + texts[way], w.best(), way);
            w.beatAll();
            w.turnBack();
            Due.is("as they were, of " + texts[way], w.best(), way);
            long own = worst(texts[way], way);
            for (int other = 0; other < 8; other++) {
                Due.yes("none is better, none ahead as good", other < way ? worst(texts[way], other) > own : worst(texts[way], other) >= own);
            }
        }
    }

    private static long worst(String text, int way) {
        return Due.done(text + "order " + way / 4 + ";radix " + (way / 2 % 2 == 1 ? 4 : 2) + ";near " + way % 2 + ";").worst(0);
    }

    // ---- 32: loudest

    @Edge("The POINT without which (TRIED 2) EXP is least, the first of several.")
    static void promise32TheFirstOfSeveral() {
        Due.is("all alike", new BlockWave().loudest(), 0);
        // 40 and 40 is halved, one of them alone isn't.
        BlockWave w = Due.told("size 4;bits 8;real 1 40;real 3 40;");
        Due.is("1 and 3 alike", w.loudest(), 1);
        w.beatAll();
        Due.is("as they were", w.loudest(), 1);
        for (int size : SIZES) {
            for (int place = 0; place < size; place++) {
                Due.is("size " + size + ", one alone at " + place, Due.told("size " + size + ";bits 8;down " + place + " 127;").loudest(), place);
            }
        }
    }

    // ---- 38: sweep

    @Edge("EXP when all STAGES are DONE forward from the POINTS as they were, by a word of bits 8 .. 16 (all else as told)")
    static void promise38FromEightBitsToSixteen() {
        BlockWave w = Due.told("size 2;bits 16;less 0 32767;");
        for (int bits = 8; bits <= 16; bits++) {
            // By nearest 32767 below 0 is 16383, 8191 and so on; 5 times it must be twice LIMIT at most.
            Due.is("sweep(" + bits + ")", w.sweep(bits), 18 - bits);
        }
        BlockWave least = Due.told("size 2;bits 8;order 1;real 1 127;");
        for (int bits = 8; bits <= 16; bits++) {
            Due.is("127 by " + bits, least.sweep(bits), bits == 8 ? 2 : bits == 9 ? 1 : 0);
        }
        Due.is("all five stages", fifthHalves().sweep(8), 1);
        least.beatAll();
        Due.is("as they were", least.sweep(8), 2);
        Due.is("bits stay", least.count(1), 8);
    }

    @Edge("NONE: no such bits.")
    static void promise38NoSuchBits() {
        BlockWave w = Due.told("size 2;real 0 1;");
        for (int bits : new int[] {7, 17, 0, -1, 1, 18, 32, 33, 40, 48, Integer.MIN_VALUE, Integer.MAX_VALUE}) {
            Due.is("sweep(" + bits + ")", w.sweep(bits), -1);
        }
    }

    // ---- 53: tried

    @Edge("TRIED: EXP when all STAGES are DONE forward from the POINTS as they were: 0 by CUT, 1 by NEAREST, 2 POINT i being 0 (RE, IM), "
            + "3 by the other radix, 4 by the other order.")
    static void promise53WhateverIsTold() {
        for (int near = 0; near <= 1; near++) {
            // 85 is 43, 22, 11 by nearest, 42, 21 by cut.
            BlockWave w = Due.told("size 4;bits 8;radix 4;real 0 85;near " + near + ";");
            Due.is("by cut", w.tried(0, 0), 2);
            Due.is("by nearest", w.tried(1, 0), 3);
        }
        BlockWave two = Due.told("size 4;bits 8;real 0 43;");
        BlockWave four = Due.told("size 4;bits 8;radix 4;real 0 43;");
        Due.is("4 in place of 2", two.tried(3, 0), 2);
        Due.is("2 in place of 4", four.tried(3, 0), 0);
        BlockWave first = Due.told("size 2;bits 8;real 0 43;");
        BlockWave behind = Due.told("size 2;bits 8;order 1;real 0 43;");
        Due.is("order 1 in place of 0", first.tried(4, 0), 1);
        Due.is("order 0 in place of 1", behind.tried(4, 0), 0);
        BlockWave five = fifthHalves();
        for (int what = 0; what <= 4; what++) {
            Due.is("all stages, tried(" + what + ", 0)", five.tried(what, 0), 1);
        }
        behind.beatAll();
        Due.stays("tried()", behind, () -> Due.is("as they were", behind.tried(4, 0), 0));
    }

    @Edge("2 POINT i being 0 (RE, IM)")
    static void promise53WithoutTheFirstOrTheLast() {
        for (int size : SIZES) {
            BlockWave w = Due.told("size " + size + ";bits 8;real 0 127;down " + (size - 1) + " 127;");
            Due.is("size " + size + ", without the first", w.tried(2, 0) >= 2 ? 1 : 0, 1);
            w.set(0, 0, 0);
            Due.is("size " + size + ", without the last", w.tried(2, size - 1), 0);
            Due.is("the last stays", w.point(size - 1, 1), -127);
            w.set(0, 127, -127);
            w.set(size - 1, 0, 0);
            Due.is("size " + size + ", without the first, RE and IM", w.tried(2, 0), 0);
        }
        // 50 and 0 is not halved, 50 and 1 (or less 1) would be.
        Due.is("0, not nearly, RE", Due.told("size 4;bits 8;real 0 50;real 2 9;").tried(2, 2), 0);
        Due.is("0, not nearly, IM", Due.told("size 4;bits 8;side 0 50;side 2 9;").tried(2, 2), 0);
    }

    @Edge("TRIED; NONE: no such ones (i 0 of all but 2).")
    static void promise53NoSuchOnes() {
        for (int size : SIZES) {
            BlockWave w = Due.told("size " + size + ";real 0 3;");
            for (int what : Due.outside(5)) {
                Due.is("size " + size + " tried(" + what + ", 0)", w.tried(what, 0), -1);
                Due.is("size " + size + " tried(" + what + ", 1)", w.tried(what, 1), -1);
            }
            for (int i : Due.outside(size)) {
                Due.is("size " + size + " tried(2, " + i + ")", w.tried(2, i), -1);
            }
            Due.is("size " + size + ", the last", w.tried(2, size - 1), 0);
        }
    }

    @Edge("(i 0 of all but 2)")
    static void promise53I0OfAllBut2() {
        BlockWave w = Due.told("size 4;real 0 3;");
        for (int what : new int[] {0, 1, 3, 4}) {
            for (int i : new int[] {1, 2, 3, -1, 4, Integer.MIN_VALUE, Integer.MAX_VALUE}) {
                Due.is("tried(" + what + ", " + i + ")", w.tried(what, i), -1);
            }
            Due.is("tried(" + what + ", 0)", w.tried(what, 0), 0);
        }
        Due.is("tried(2, 3)", w.tried(2, 3), 0);
    }
}
