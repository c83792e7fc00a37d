/** Edges of promises 10 to 13: stages, one or all of them, back again, ahead. */
final class EdgesOfStages {
    private static final String[] SHAPES = {"", "radix 4;", "order 1;", "radix 4;order 1;"};
    /** Halved twice by the first stage forward, once by the second; once by the first one back, then no more. */
    private static final String LOUD = "size 4;bits 8;real 0 127;real 1 127;real 2 127;real 3 127;";
    private static final String STEPS = "size 4;real 0 1;real 1 2;real 2 4;real 3 8;";

    private EdgesOfStages() {
    }

    // ---- 10: one stage

    @Edge("HALF of x: x by 2, rounded down, by CUT")
    static void promise10HalvedByCut() {
        BlockWave w = Due.told("size 2;bits 8;near 0;real 0 51;down 0 51;real 1 1;down 1 1;");
        Due.is("beat()", w.beat(), 1);
        // 25 and -26, 0 and -1.
        Due.points("halved", w, 25, -27, 25, -25);
        w = Due.told("size 2;bits 8;near 0;less 0 51;side 0 51;less 1 1;side 1 1;");
        Due.is("beat()", w.beat(), 1);
        Due.points("halved, the other way round", w, -27, 25, -25, 25);
    }

    @Edge("(x and 1) by 2, rounded down, by NEAREST.")
    static void promise10HalvedByNearest() {
        BlockWave w = Due.told("size 2;bits 8;near 1;real 0 51;down 0 51;real 1 1;down 1 1;");
        Due.is("beat()", w.beat(), 1);
        // 26 and -25, 1 and 0.
        Due.points("halved", w, 27, -25, 25, -25);
        w = Due.told("size 2;bits 8;near 1;less 0 51;side 0 51;less 1 1;side 1 1;");
        Due.is("beat()", w.beat(), 1);
        Due.points("halved, the other way round", w, -25, 27, -25, 25);
        w = Due.told("size 2;bits 8;near 1;real 0 52;down 0 52;real 1 2;down 1 2;");
        Due.is("beat()", w.beat(), 1);
        Due.points("even ones", w, 27, -27, 25, -25);
    }

    private static void turned(String text, int re, int im) {
        for (String order : new String[] {"", "order 1;"}) {
            BlockWave w = Due.done("size 8;" + order + text);
            Due.is(text + order + " RE", w.point(1, 0), re);
            Due.is(text + order + " IM", w.point(1, 1), im);
        }
    }

    @Edge("each by 16384, rounded down, by CUT, and with 8192 added ahead of it by NEAREST.")
    static void promise10TurnedByCut() {
        // 7487 times 11585 is 1 less than 5294 times 16384; 8192 times it is a half.
        turned("near 0;real 1 7487;", 5293, -5294);
        turned("near 0;less 1 7487;", -5294, 5293);
        turned("near 0;real 1 8192;", 5792, -5793);
        turned("near 0;side 1 8192;", 5792, 5792);
        turned("near 0;down 1 8192;", -5793, -5793);
    }

    @Edge("each by 16384, rounded down, by CUT, and with 8192 added ahead of it by NEAREST.")
    static void promise10TurnedByNearest() {
        // 705 times 11585 is 1 more than 498 and a half.
        turned("real 1 7487;", 5294, -5294);
        turned("real 1 8192;", 5793, -5792);
        turned("less 1 8192;", -5792, 5793);
        turned("down 1 8192;", -5792, -5792);
        turned("less 1 705;", -499, 499);
    }

    private static void firstHalvings(String text, int value, int due) {
        for (String word : new String[] {"real", "less", "side", "down"}) {
            BlockWave w = Due.told("bits 9;" + text + word + " 1 " + value + ";");
            Due.is(text + word + " " + value, w.beat(), due);
            Due.is(text + word + " " + value + " EXP", w.count(8), due);
        }
    }

    @Edge("(2) as long as LARGEST times GROW is more than LIMIT times 2 (GROW: 5 of radix 2 by order 0")
    static void promise10GrowOfRadix2ByOrder0() {
        // LIMIT is 255: 5 times 102 is 510, which is not more.
        firstHalvings("size 2;", 102, 0);
        firstHalvings("size 2;", 103, 1);
        firstHalvings("size 2;radix 4;", 102, 0);
        firstHalvings("size 2;radix 4;", 103, 1);
        firstHalvings("size 8;radix 4;", 102, 0);
        firstHalvings("size 8;radix 4;", 103, 1);
        firstHalvings("size 32;", 102, 0);
        firstHalvings("size 32;", 103, 1);
    }

    @Edge("6 of radix 2 by order 1")
    static void promise10GrowOfRadix2ByOrder1() {
        firstHalvings("size 2;order 1;", 85, 0);
        firstHalvings("size 2;order 1;", 86, 1);
        firstHalvings("size 32;order 1;", 85, 0);
        firstHalvings("size 32;order 1;", 86, 1);
        firstHalvings("size 2;radix 4;order 1;", 85, 0);
        firstHalvings("size 2;radix 4;order 1;", 86, 1);
        // Of radix 2 behind one of radix 4: what comes to place 0 is the sum of four.
        for (int more = 0; more <= 1; more++) {
            BlockWave w = Due.told("size 8;bits 9;radix 4;order 1;real 0 42;real 4 42;real 2 1;real 6 " + more + ";");
            Due.is("radix 4 first", w.beat(), 0);
            Due.is("largest()", w.largest(), 85 + more);
            Due.is("then radix 2 of " + (85 + more), w.beat(), more);
        }
    }

    @Edge("12 of radix 4")
    static void promise10GrowOfRadix4() {
        // 12 times 42 is 504, times 43 is 516.
        firstHalvings("size 4;radix 4;", 42, 0);
        firstHalvings("size 4;radix 4;", 43, 1);
        firstHalvings("size 4;radix 4;order 1;", 42, 0);
        firstHalvings("size 4;radix 4;order 1;", 43, 1);
        firstHalvings("size 16;radix 4;", 43, 1);
        firstHalvings("size 32;radix 4;order 1;", 43, 1);
        for (int value = 42; value <= 43; value++) {
            BlockWave w = Due.told("size 8;bits 9;radix 4;real 0 " + value + ";");
            Due.is("radix 2 first", w.beat(), 0);
            Due.is("then radix 4 of " + value, w.beat(), value - 42);
        }
    }

    @Edge("HALVED once (asked anew behind each)")
    static void promise10AskedAnewBehindEach() {
        // 205 is 103 by nearest, which is too much yet, and 102 by cut, which isn't.
        firstHalvings("size 2;", 204, 1);
        firstHalvings("size 2;", 255, 2);
        firstHalvings("size 4;radix 4;", 255, 3);
        Due.is("205 by nearest", Due.told("size 2;bits 9;real 0 205;").beat(), 2);
        Due.is("205 by nearest, beside", Due.told("size 2;bits 9;side 1 205;").beat(), 2);
        BlockWave cut = Due.told("size 2;bits 9;near 0;real 0 205;");
        Due.is("205 by cut", cut.beat(), 1);
        Due.points("102", cut, 102, 0, 102, 0);
        // Below 0 it is the other way round: -205 is -103 by cut, -102 by nearest.
        Due.is("205 below 0 by cut", Due.told("size 2;bits 9;near 0;less 0 205;").beat(), 2);
        BlockWave nearest = Due.told("size 2;bits 9;less 0 205;");
        Due.is("205 below 0 by nearest", nearest.beat(), 1);
        Due.points("102 below 0", nearest, -102, 0, -102, 0);
    }

    @Edge("EXP (0 at first) is 1 more: HALVED once")
    static void promise10ExpIsOneMoreForEach() {
        BlockWave w = Due.told(LOUD);
        Due.is("EXP at first", w.count(8), 0);
        Due.is("the first stage", w.beat(), 2);
        Due.is("EXP", w.count(8), 2);
        Due.is("the second stage", w.beat(), 1);
        Due.is("EXP", w.count(8), 3);
    }

    @Edge("(1) by order 0, the first STAGE: POINTS go to REVERSED places.")
    static void promise10ByOrder0TheFirstStageReverses() {
        BlockWave w = Due.told(STEPS);
        w.beat();
        Due.points("the first", w, 5, 0, -3, 0, 10, 0, -6, 0);
        w.beat();
        Due.points("the second", w, 15, 0, -3, 6, -5, 0, -3, -6);
        BlockWave only = Due.told(STEPS + "radix 4;");
        only.beat();
        Due.points("the only one", only, 15, 0, -3, 6, -5, 0, -3, -6);
    }

    @Edge("(4) by order 1, the last STAGE: what is at a place goes from it to its REVERSED place.")
    static void promise10ByOrder1TheLastStageReverses() {
        BlockWave w = Due.told(STEPS + "order 1;");
        w.beat();
        Due.points("the first", w, 5, 0, 10, 0, -3, 0, 0, 6);
        w.beat();
        Due.points("the last", w, 15, 0, -3, 6, -5, 0, -3, -6);
        BlockWave only = Due.told(STEPS + "radix 4;order 1;");
        only.beat();
        Due.points("the only one", only, 15, 0, -3, 6, -5, 0, -3, -6);
        // With radices 4 and 2 a place and the one that goes to it differ: what is at 1 goes to 4.
        for (int place = 0; place < 8; place++) {
            BlockWave mixed = Due.done("size 8;radix 4;order 1;real " + place + " 1000;");
            for (int k = 0; k < 8; k++) {
                Due.is("1000 at " + place + ", note " + k, Math.round(mixed.point(k, 0) / 1000.0 * 1.4), roundCos(place * k));
            }
        }
    }

    /** 1.4 times the cosine, by eighths of a round, to the nearest. */
    private static int roundCos(int eighths) {
        return new int[] {1, 1, 0, -1, -1, -1, 0, 1}[eighths % 8];
    }

    @Edge("WINGS: for each g from 0 on by r times L, for each k of 0 .. L less 1: the r POINTS at g, k and q times L (q of 0 .. r less 1): "
            + "each TURNED by q times k times (N by (r times L)) (q 0: as it is), then ADDED.")
    static void promise10EveryWingFromTheFirstToTheLast() {
        for (int size = 2; size <= 32; size *= 2) {
            for (String shape : SHAPES) {
                for (int place = 0; place < size; place++) {
                    notesOfOne(size, shape, place);
                }
            }
        }
    }

    /** The notes of one point are its turns, rounded: a wing that is left out or turned otherwise is far from them. */
    private static void notesOfOne(int size, String shape, int place) {
        BlockWave w = Due.done("size " + size + ";real " + place + " 2000;" + shape);
        for (int k = 0; k < size; k++) {
            double angle = 2 * Math.PI * place * k / size;
            boolean near = Math.abs(w.point(k, 0) - 2000 * Math.cos(angle)) < 4 && Math.abs(w.point(k, 1) + 2000 * Math.sin(angle)) < 4;
            Due.yes("size " + size + " " + shape + " point " + place + ", note " + k, near);
        }
    }

    @Edge("-2: all are DONE.")
    static void promise10AllAreDone() {
        for (String shape : SHAPES) {
            BlockWave w = Due.told("size 4;real 0 5;side 1 3;" + shape);
            int stages = w.count(5);
            for (int stage = 0; stage < stages; stage++) {
                Due.is("beat() " + shape, w.beat(), 0);
            }
            Due.stays("beat(), done", w, () -> Due.is("beat(), done " + shape, w.beat(), -2));
            Due.is("done", w.count(6), stages);
        }
    }

    @Edge("-2: all are DONE.")
    static void promise10AllAreDoneBack() {
        BlockWave w = Due.gone("size 4;real 0 5;side 1 3;");
        Due.is("beat() back", w.beat(), 0);
        Due.is("beat() back", w.beat(), 0);
        Due.stays("beat(), done back", w, () -> Due.is("beat(), done back", w.beat(), -2));
        BlockWave one = Due.gone("size 2;");
        Due.is("of two points: beat() back", one.beat(), 0);
        Due.is("of two points: no more", one.beat(), -2);
    }

    // ---- 11: all stages

    @Edge("STAGES are done till all are DONE (nothing to undo then, if all were, too): EXP.")
    static void promise11FromAnyStageOn() {
        for (int ahead = 0; ahead <= 2; ahead++) {
            BlockWave w = Due.told(LOUD);
            for (int stage = 0; stage < ahead; stage++) {
                w.beat();
            }
            Due.is("beatAll() behind " + ahead, w.beatAll(), 3);
            Due.is("EXP", w.count(8), 3);
            Due.is("all done", w.count(6), 2);
            Due.points("behind " + ahead, w, 64, 0, 0, 0, 0, 0, 0, 0);
            w.turnBack();
            for (int stage = 0; stage < ahead; stage++) {
                w.beat();
            }
            Due.is("beatAll() back, behind " + ahead, w.beatAll(), 2);
            Due.points("back, behind " + ahead, w, 32, 0, 32, 0, 32, 0, 32, 0);
            Due.is("not forward again", w.count(7), 1);
        }
    }

    @Edge("(nothing to undo then, if all were, too)")
    static void promise11NothingToUndoThen() {
        for (int ahead = 0; ahead <= 2; ahead++) {
            BlockWave w = Due.told(LOUD);
            w.set(0, 1, 1);
            for (int stage = 0; stage < ahead; stage++) {
                w.beat();
            }
            Due.is("to undo", w.count(12), 1 + ahead);
            w.beatAll();
            Due.is("nothing to undo behind " + ahead, w.count(12), 0);
            Due.is("undo() behind " + ahead, w.undo(), -1);
        }
    }

    @Edge("(nothing to undo then, if all were, too)")
    static void promise11AllWereDoneBack() {
        BlockWave w = Due.gone("size 2;real 0 3;");
        w.beat();
        Due.is("two to undo", w.count(12), 2);
        Due.is("EXP is below 0", w.beatAll(), -1);
        Due.is("nothing to undo", w.undo(), -1);
        Due.is("EXP again", w.beatAll(), -1);
        Due.is("done back", w.count(6) * 10 + w.count(7), 11);
    }

    // ---- 12: back

    @Edge("It goes BACK, if it is DONE forward: true; false: it isn't.")
    static void promise12OnlyWhenDoneForward() {
        BlockWave w = Due.told("size 4;real 0 5;side 1 3;");
        Due.stays("no stage done", w, () -> Due.no("no stage done", w.turnBack()));
        w.beat();
        Due.stays("one stage done", w, () -> Due.no("one stage done", w.turnBack()));
        w.beat();
        Due.yes("all done", w.turnBack());
        Due.stays("it goes back", w, () -> Due.no("it goes back", w.turnBack()));
    }

    @Edge("false: it isn't.")
    static void promise12NotWhenGoneBack() {
        BlockWave w = Due.gone("size 4;real 0 5;side 1 3;");
        w.beat();
        Due.no("one stage back", w.turnBack());
        w.beat();
        Due.stays("done back", w, () -> Due.no("done back", w.turnBack()));
        w.undo();
        w.undo();
        w.undo();
        Due.yes("all of it undone", w.turnBack());
    }

    @Edge("BACK: behind all STAGES forward: each IM is less itself at once, STAGES come from the first one on again (EXP goes on)")
    static void promise12AtOnce() {
        BlockWave w = Due.done(LOUD + "side 1 9;down 2 9;");
        int[] before = new int[8];
        for (int i = 0; i < 8; i++) {
            before[i] = w.point(i / 2, i % 2);
        }
        int exp = w.count(8);
        Due.yes("turnBack()", w.turnBack());
        for (int i = 0; i < 8; i++) {
            Due.is("at once " + i, w.point(i / 2, i % 2), i % 2 == 0 ? before[i] : -before[i]);
        }
        Due.is("no stage done", w.count(6), 0);
        Due.is("it goes back", w.count(7), 1);
        Due.is("EXP goes on", w.count(8), exp);
        Due.is("the points as they were", w.point(1, 3), 9);
    }

    @Edge("behind the last one each IM is less itself, EXP is M less.")
    static void promise12BehindTheLastOne() {
        // Of 32 points by radix 4 there are three stages, and M is 5.
        for (int size = 2; size <= 32; size *= 2) {
            for (String shape : SHAPES) {
                BlockWave w = Due.gone("size " + size + ";side 0 3;" + shape);
                int stages = w.count(5);
                for (int stage = 0; stage < stages; stage++) {
                    Due.is("EXP behind " + stage + " back", w.count(8), 0);
                    Due.is("IM behind " + stage + " back", w.point(0, 1) < 0 ? -1 : 1, -1);
                    w.beat();
                }
                Due.is("size " + size + " " + shape + " EXP", w.count(8), -Integer.numberOfTrailingZeros(size));
                Due.is("size " + size + " " + shape + " IM", w.point(0, 1), 3 * size);
                Due.is("size " + size + " " + shape + " nothing else", w.energy(0), 9L * size * size);
            }
        }
    }

    @Edge("DONE: all STAGES, forward or back.")
    static void promise12DoneForwardOrBack() {
        BlockWave w = Due.gone("size 4;real 0 1;");
        Due.is("beat()", w.beat(), 0);
        Due.is("beat()", w.beat(), 0);
        Due.is("done back", w.beat(), -2);
        Due.is("not done forward", w.off(0), -2);
    }

    // ---- 13: ahead

    private static void ahead(BlockWave w, int stages, int exp, int largest, int halvings) {
        Due.is("ahead(" + stages + ", 0)", w.ahead(stages, 0), exp);
        Due.is("ahead(" + stages + ", 1)", w.ahead(stages, 1), largest);
        Due.is("ahead(" + stages + ", 2)", w.ahead(stages, 2), halvings);
    }

    @Edge("What would come of so many STAGES more (0 .. 5; no more than there are)")
    static void promise13NoMoreThanThereAre() {
        BlockWave w = Due.told(LOUD);
        Due.stays("ahead()", w, () -> {
            ahead(w, 0, 0, 127, 0);
            ahead(w, 1, 2, 64, 2);
            ahead(w, 2, 3, 64, 3);
            ahead(w, 3, 3, 64, 3);
            ahead(w, 5, 3, 64, 3);
        });
        w.beat();
        ahead(w, 0, 2, 64, 0);
        ahead(w, 1, 3, 64, 1);
        ahead(w, 5, 3, 64, 1);
        w.beat();
        ahead(w, 0, 3, 64, 0);
        ahead(w, 5, 3, 64, 0);
        BlockWave beside = Due.told("size 4;side 0 1;side 1 2;side 2 4;side 3 8;");
        ahead(beside, 0, 0, 8, 0);
        ahead(beside, 1, 0, 10, 0);
        ahead(beside, 2, 0, 15, 0);
        beside.beat();
        ahead(beside, 0, 0, 10, 0);
        ahead(beside, 1, 0, 15, 0);
        BlockWave five = Due.told("size 32;real 0 5;real 16 5;real 8 5;real 24 5;");
        ahead(five, 4, 0, 20, 0);
        ahead(five, 5, 0, 20, 0);
    }

    @Edge("(0 .. 5; no more than there are)")
    static void promise13BackNoMoreThanThereAre() {
        BlockWave w = Due.gone(LOUD);
        Due.stays("ahead() back", w, () -> {
            ahead(w, 0, 3, 64, 0);
            ahead(w, 1, 4, 32, 1);
            ahead(w, 2, 2, 32, 1);
            ahead(w, 3, 2, 32, 1);
            ahead(w, 5, 2, 32, 1);
        });
        w.beatAll();
        ahead(w, 0, 2, 32, 0);
        ahead(w, 1, 2, 32, 0);
        ahead(w, 5, 2, 32, 0);
    }

    @Edge("NONE: no such ones.")
    static void promise13NoSuchOnes() {
        BlockWave w = Due.told(LOUD);
        Due.stays("no such ones", w, () -> {
            for (int stages : Due.outside(6)) {
                for (int what = 0; what < 3; what++) {
                    Due.is("ahead(" + stages + ", " + what + ")", w.ahead(stages, what), -1);
                }
            }
            for (int what : Due.outside(3)) {
                Due.is("ahead(0, " + what + ")", w.ahead(0, what), -1);
                Due.is("ahead(5, " + what + ")", w.ahead(5, what), -1);
            }
        });
    }
}
