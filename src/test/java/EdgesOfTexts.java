/** Edges of promises 1 to 4: a new object, the tape, texts, faults. */
final class EdgesOfTexts {
    private static final String[] SETTINGS = {"size", "bits", "radix", "order", "near", "seed"};
    private static final String[] OF_POINTS = {"real", "less", "side", "down"};
    private static final int BLANKS = 0x20202020;

    private EdgesOfTexts() {
    }

    private static void lines(String text, int lines) {
        BlockWave w = new BlockWave();
        Due.is("text of '" + text + "'", Due.tell(w, text), lines);
        Due.is("fault(0) of '" + text + "'", w.fault(0), 0);
        Due.is("fault(1) of '" + text + "'", w.fault(1), -1);
    }

    /** One that can be told. */
    private static String numberOf(String word) {
        return word.equals("bits") ? "8" : word.equals("order") || word.equals("near") ? "1" : "2";
    }

    private static int feedBlanks(BlockWave w) {
        return w.feed(BLANKS, BLANKS, BLANKS, BLANKS, BLANKS);
    }

    // ---- 1: a new object

    @Edge("A TEXT without LINES")
    static void promise1ATextWithoutLines() {
        BlockWave w = new BlockWave();
        int[] counts = {8, 16, 2, 0, 1, 3, 0, 0, 0, 32767, 0, 0, 0};
        for (int what = 0; what < counts.length; what++) {
            Due.is("count(" + what + ")", w.count(what), counts[what]);
        }
        for (int place = 0; place < 8; place++) {
            for (int what = 0; what < 4; what++) {
                Due.is("point(" + place + ", " + what + ")", w.point(place, what), 0);
            }
        }
        Due.is("point(8, 0)", Due.thrownBy(w, 8, 0), 1);
        Due.is("undo()", w.undo(), -1);
        Due.is("back()", w.back(), -1);
        Due.is("fault(0)", w.fault(0), 0);
        Due.is("fault(1)", w.fault(1), -1);
        Due.is("all are known", w.note(0, 1, true) + w.count(11), 1);
    }

    @Edge("A TEXT without LINES")
    static void promise1AsIfTheTextHadBeenTold() {
        BlockWave made = new BlockWave();
        BlockWave told = Due.told("");
        for (int k = 0; k < 8; k++) {
            Due.is("turn(" + k + ", 0)", made.turn(k, 0), told.turn(k, 0));
            Due.is("turn(" + k + ", 1)", made.turn(k, 1), told.turn(k, 1));
            Due.is("reversed(" + k + ")", made.reversed(k), told.reversed(k));
            Due.is("unfold(1, 5, " + k + ")", made.unfold(1, 5, k), told.unfold(1, 5, k));
            Due.yes("set", made.set(k, 4000 * k, -700 * k) & told.set(k, 4000 * k, -700 * k));
        }
        for (int a = 1; a <= 40; a += 3) {
            Due.is("the seed is 0, by " + a, made.chance(-1, a, made.sweep(16)), made.chance(0, a, made.sweep(16)));
        }
        for (int k = 0; k < 8; k++) {
            Due.is("bin(" + k + ")", made.bin(k), told.bin(k));
            Due.is("direct(" + k + ", 0)", made.direct(k, 0), told.direct(k, 0));
        }
        made.beatAll();
        told.beatAll();
        for (int k = 0; k < 8; k++) {
            Due.is("RE " + k, made.point(k, 0), told.point(k, 0));
            Due.is("IM " + k, made.point(k, 1), told.point(k, 1));
        }
    }

    @Edge("an empty TAPE")
    static void promise1AnEmptyTape() {
        BlockWave w = new BlockWave();
        Due.is("text(1)", w.text(1), -2);
        Due.is("text(20)", w.text(20), -2);
        Due.is("the first feed()", feedBlanks(w), 20);
        Due.is("text(0) of an empty tape", new BlockWave().text(0), 0);
    }

    @Edge("An object is used for at most 512 calls after it has been made")
    static void promise1TheLastOf512Calls() {
        BlockWave w = new BlockWave();
        for (int call = 1; call <= 511; call++) {
            Due.yes("call " + call, w.set(call % 8, call, -call));
        }
        long due = 0;
        for (int call = 504; call <= 511; call++) {
            due += 2L * call * call;
        }
        Due.is("the 512th call", w.energy(0), due);
        BlockWave fed = new BlockWave();
        for (int call = 1; call <= 510; call += 2) {
            feedBlanks(fed);
            Due.is("text " + call, fed.text(20), 0);
        }
        Due.is("the 511th call", feedBlanks(fed), 20);
        Due.is("the 512th call", fed.text(20), 0);
    }

    // ---- 2: the tape

    @Edge("Twenty bytes come behind the TAPE, four of each number, the highest first")
    static void promise2EachOfTwentyBytesAtItsPlace() {
        for (int at = 0; at < 20; at++) {
            int[] n = {BLANKS, BLANKS, BLANKS, BLANKS, BLANKS};
            // A byte of 255 in place of a blank: the highest one makes the number less than 0.
            n[at / 4] = BLANKS | 0xFF << (24 - at % 4 * 8);
            BlockWave w = new BlockWave();
            w.feed(n[0], n[1], n[2], n[3], n[4]);
            w.feed(n[0], n[1], n[2], n[3], n[4]);
            Due.is("bytes ahead of " + at, w.text(at), 0);
            w.feed(n[0], n[1], n[2], n[3], n[4]);
            Due.is("byte " + at, w.text(20), -1);
            Due.is("byte " + at + " is at", w.fault(1), at);
            feedBlanks(w);
            w.feed(n[0], n[1], n[2], n[3], n[4]);
            w.text(40);
            Due.is("behind twenty, byte " + at + " is at", w.fault(1), 20 + at);
        }
    }

    @Edge("how many it has; NONE, and none come, if it would have more than 700")
    static void promise2Just700() {
        BlockWave w = new BlockWave();
        for (int times = 1; times <= 35; times++) {
            Due.is("feed " + times, feedBlanks(w), 20 * times);
        }
        Due.is("all 700 are there", w.text(700), 0);
        Due.is("from the beginning then", feedBlanks(w), 20);
    }

    @Edge("NONE, and none come, if it would have more than 700")
    static void promise2NoneComeBeyond700() {
        BlockWave w = new BlockWave();
        for (int times = 1; times <= 35; times++) {
            feedBlanks(w);
        }
        Due.is("one more", w.feed(-1, -1, -1, -1, -1), -1);
        Due.is("and again", w.feed(0, 0, 0, 0, 0), -1);
        Due.is("there are no 701", w.text(701), -2);
        Due.is("nor 720", w.text(720), -2);
        Due.is("and what was there is as it was", w.text(700), 0);
    }

    // ---- 3: texts

    @Edge("The TAPE's first n bytes (it is empty then) are the TEXT")
    static void promise3TheFirstOfTheTapeAndNoMore() {
        String tape = "size 2;near 0;bits 9;";
        for (int n : new int[] {0, 7, 14, 21}) {
            BlockWave w = new BlockWave();
            int[] numbers = Due.numbers(tape);
            w.feed(numbers[0], numbers[1], numbers[2], numbers[3], numbers[4]);
            w.feed(numbers[5], numbers[6], numbers[7], numbers[8], numbers[9]);
            Due.is("text(" + n + ")", w.text(n), n / 7);
            Due.is("size by " + n, w.count(0), n >= 7 ? 2 : 8);
            Due.is("near by " + n, w.count(4), n >= 14 ? 0 : 1);
            Due.is("bits by " + n, w.count(1), n >= 21 ? 9 : 16);
            Due.is("nothing is left of it by " + n, w.text(1), -2);
            Due.is("fed anew by " + n, feedBlanks(w), 20);
        }
    }

    @Edge("The TAPE's first n bytes (it is empty then)")
    static void promise3TheTapeIsEmptyWithAFaultToo() {
        BlockWave w = new BlockWave();
        Due.is("a fault", Due.tell(w, "size 3;"), -1);
        Due.is("text(1)", w.text(1), -2);
        Due.is("fed anew", feedBlanks(w), 20);
    }

    private static BlockWave withAll() {
        BlockWave w = Due.told("size 4;bits 8;radix 4;order 1;near 0;seed 5;real 0 127;side 3 9;");
        w.note(0, 3, true);
        w.note(1, 3, false);
        w.known(1);
        w.set(1, 1, 1);
        w.keep();
        w.beat();
        w.turnBack();
        return w;
    }

    @Edge("(POINTS as told, no STAGE done, EXP 0, no NOTES, all KNOWN, no IMAGE, nothing to undo then)")
    static void promise3ATextLeavesNothingOfTheOneAhead() {
        BlockWave w = withAll();
        Due.is("a text without lines", Due.tell(w, ""), 0);
        int[] counts = {8, 16, 2, 0, 1, 3, 0, 0, 0, 32767, 0, 0, 0};
        for (int what = 0; what < counts.length; what++) {
            Due.is("count(" + what + ")", w.count(what), counts[what]);
        }
        for (int place = 0; place < 8; place++) {
            for (int what = 0; what < 4; what++) {
                Due.is("point(" + place + ", " + what + ")", w.point(place, what), 0);
            }
        }
        Due.is("nothing to undo", w.undo(), -1);
        Due.is("no image", w.back(), -1);
        w.note(0, 9, true);
        Due.is("all known", w.count(11), 1);
        Due.is("by the note that is there alone", w.values(0), 0xFE00);
        Due.yes("it did not go back", w.set(0, 1, 1));
        // The seed told ahead is no seed of this text, either.
        Due.tell(w, "size 2;bits 8;real 0 50;seed 99999;");
        Due.tell(w, "size 2;bits 8;real 0 50;");
        for (int a = 1; a <= 30; a++) {
            Due.is("seed 0, by " + a, w.chance(-1, a, 1), w.chance(0, a, 1));
        }
    }

    @Edge("The TAPE's first n bytes")
    static void promise3AWordOrNumberEndsWhereTheTextEnds() {
        String tape = "realm 123;near 0;;;;";
        int[] n = Due.numbers(tape);
        // Of so many bytes: r, .., real, realm, then its blank.
        int[][] due = {{1, 0}, {4, 4}, {5, 0}};
        for (int[] one : due) {
            BlockWave w = new BlockWave();
            w.feed(n[0], n[1], n[2], n[3], n[4]);
            Due.is("text(" + one[0] + ")", w.text(one[0]), -1);
            Due.is("fault(0) of " + one[0], w.fault(0), 1);
            Due.is("fault(1) of " + one[0], w.fault(1), one[1]);
        }
        // Digits behind the end are on the tape, but in no text: 'near 0' is cut ahead of its second digit.
        int[] digits = Due.numbers("near 01;");
        BlockWave w = new BlockWave();
        w.feed(digits[0], digits[1], digits[2], digits[3], digits[4]);
        Due.is("text(6)", w.text(6), -1);
        Due.is("the length", w.fault(1), 6);
        // Nor is what an earlier tape had there.
        Due.is("told", Due.tell(w, "size 2;seed 11111111"), -1);
        Due.is("told", Due.tell(w, "near 0;seed 1;"), 2);
        int[] blank = Due.numbers("seed 12");
        w.feed(blank[0], blank[1], blank[2], blank[3], blank[4]);
        Due.is("text(7)", w.text(7), -1);
        Due.is("the length", w.fault(1), 7);
    }

    @Edge("POINTS as told")
    static void promise3OfALesserSizeNothingIsBehindTheEnd() {
        BlockWave w = Due.told("size 32;real 31 3000;side 2 3000;real 2 50;");
        Due.is("told", Due.tell(w, "size 2;real 1 5;"), 2);
        Due.is("point(2, 0)", Due.thrownBy(w, 2, 0), 1);
        Due.is("largest()", w.largest(), 5);
        Due.is("energy(0)", w.energy(0), 25);
        Due.is("energy(1)", w.energy(1), 25);
        Due.is("over(1)", w.over(1), 1);
        Due.is("bin(0)", w.bin(0), 5);
        Due.is("direct(0, 0)", w.direct(0, 0), 5 * 16384);
        Due.is("told anew", Due.tell(w, "size 32;"), 1);
        Due.is("nothing comes again", w.energy(0), 0);
        Due.is("nothing was there", w.energy(1), 0);
    }

    @Edge("how many LINES; NONE with a FAULT, all stays")
    static void promise3LinesFromNoneToAsManyAsCanBe() {
        lines("", 0);
        lines(" \n ", 0);
        lines("near 0;", 1);
        StringBuilder all = new StringBuilder("size 32;bits 9;radix 4;order 1;near 0;seed 1;");
        for (int point = 0; point < 32; point++) {
            all.append(point % 2 == 0 ? "real " : "less ").append(point).append(" 1;");
            all.append(point % 3 == 0 ? "side " : "down ").append(point).append(" 1;");
        }
        lines(all.toString(), 70);
    }

    @Edge("NONE with a FAULT, all stays")
    static void promise3WithAFaultAllStays() {
        for (String text : new String[] {"?", "size 3;", "near 0;near 0;", "size 2;real 0 1;real 0 1;", "size 2"}) {
            BlockWave w = withAll();
            String before = Due.seen(w);
            Due.is("text of '" + text + "'", Due.tell(w, text), -1);
            String behind = Due.seen(w).replaceAll("[123] \\d+ (-?\\d+)$", "0 -1 $1");
            Due.yes("all stays by '" + text + "': " + before + " / " + behind, behind.equals(before));
            Due.is("what can be undone stays", w.undo(), 2);
            Due.is("the image stays", w.back(), 0);
            Due.is("as it was kept", w.point(0, 0), 127);
        }
    }

    @Edge("NONE with a FAULT, all stays")
    static void promise3WhatAFaultyTextToldIsNotToldAlready() {
        BlockWave w = new BlockWave();
        Due.is("with a fault", Due.tell(w, "size 4;seed 1;real 0 7;side 0 7;?"), -1);
        Due.is("told anew", Due.tell(w, "size 4;seed 1;real 0 1;side 0 2;"), 4);
        Due.is("told anew again", Due.tell(w, "size 4;seed 1;"), 2);
        Due.is("and nothing of points ahead", w.energy(1), 0);
    }

    @Edge("-2, and the TAPE stays: there are not so many, n is below 0")
    static void promise3NotSoManyBytes() {
        BlockWave w = new BlockWave();
        int[] n = Due.numbers("size 2;near 0;bits 9;radix 4;seed 1;");
        w.feed(n[0], n[1], n[2], n[3], n[4]);
        Due.stays("texts that are too long", w, () -> {
            Due.is("text(21)", w.text(21), -2);
            Due.is("text(700)", w.text(700), -2);
            Due.is("text(701)", w.text(701), -2);
            Due.is("text of the most", w.text(Integer.MAX_VALUE), -2);
        });
        Due.is("the tape stays", w.feed(n[5], n[6], n[7], n[8], n[9]), 40);
        Due.is("text(41)", w.text(41), -2);
        Due.is("text(40)", w.text(40), 5);
        Due.is("size", w.count(0), 2);
    }

    @Edge("-2, and the TAPE stays: there are not so many, n is below 0")
    static void promise3LessThanNoBytes() {
        BlockWave w = new BlockWave();
        int[] n = Due.numbers("size 2;near 0;");
        w.feed(n[0], n[1], n[2], n[3], n[4]);
        Due.stays("texts of less than no bytes", w, () -> {
            Due.is("text(-1)", w.text(-1), -2);
            Due.is("text(-2)", w.text(-2), -2);
            Due.is("text of the least", w.text(Integer.MIN_VALUE), -2);
        });
        Due.is("the tape stays", w.text(20), 2);
        Due.is("size", w.count(0), 2);
    }

    @Edge("A TEXT: { LINE ';' }.")
    static void promise3EachLineEndsWithAStop() {
        lines("near 0;", 1);
        Due.fault("near 0", 1, 6);
        Due.fault("near 0;;", 1, 7);
        Due.fault(";near 0;", 1, 0);
        Due.fault("near 0 order 1;", 1, 7);
        Due.fault("near 0,", 1, 6);
    }

    @Edge("Words: small letters in a row; N: digits.")
    static void promise3WordsAndNumbersEndWhereTheirSignsEnd() {
        lines("size4;real0 5;", 2);
        lines("near0;order 1;seed00000000000000000099999;", 3);
        Due.fault("si ze 4;", 1, 0);
        Due.fault("SIZE 4;", 1, 0);
        Due.fault("sizE 4;", 1, 0);
        Due.fault("size 1 6;", 2, 5);
        Due.fault("size 4x;", 1, 6);
        Due.fault("size x4;", 1, 5);
        Due.fault("size +4;", 1, 5);
        Due.fault("less 0 -4;", 1, 7);
        Due.fault("size 4.0;", 1, 6);
    }

    @Edge("Blanks 10, 32.")
    static void promise3NoOtherSignIsABlank() {
        for (char sign = 0; sign < 256; sign++) {
            if (sign == 10 || sign == 32) {
                lines(sign + "near" + sign + "0" + sign + ";" + sign, 1);
                lines("" + sign + sign + "real" + sign + sign + "0" + sign + sign + "0" + sign + sign + ";" + sign + sign, 1);
            } else {
                Due.fault(" " + sign, 1, 1);
                Due.fault("near 0;" + sign, 1, 7);
            }
        }
    }

    @Edge("size: how many POINTS there are, 2, 4, 8, 16 or 32 (8).")
    static void promise3Sizes() {
        for (int size = 0; size <= 70; size++) {
            if (size == 2 || size == 4 || size == 8 || size == 16 || size == 32) {
                BlockWave w = Due.told("size " + size + ";");
                Due.is("size " + size, w.count(0), size);
                Due.is("the last of " + size, Due.thrownBy(w, size - 1, 0), 0);
                Due.is("one more than " + size, Due.thrownBy(w, size, 0), 1);
            } else {
                Due.fault("size " + size + ";", 2, 5);
            }
        }
        Due.is("not told", Due.told("bits 16;").count(0), 8);
    }

    @Edge("bits: of a word, 8 .. 16 (16): LIMIT is 2 to the (bits less 1) less 1.")
    static void promise3BitsAndTheirLimits() {
        int[] limits = {127, 255, 511, 1023, 2047, 4095, 8191, 16383, 32767};
        for (int bits = 0; bits <= 40; bits++) {
            if (bits >= 8 && bits <= 16) {
                BlockWave w = Due.told("bits " + bits + ";");
                Due.is("bits " + bits, w.count(1), bits);
                Due.is("LIMIT by " + bits, w.count(9), limits[bits - 8]);
            } else {
                Due.fault("bits " + bits + ";", 2, 5);
            }
        }
        Due.is("not told", Due.told("size 2;").count(1), 16);
    }

    @Edge("radix: 2 or 4 (2).")
    static void promise3Radices() {
        for (int radix = 0; radix <= 17; radix++) {
            if (radix == 2 || radix == 4) {
                Due.is("radix " + radix, Due.told("radix " + radix + ";").count(2), radix);
            } else {
                Due.fault("radix " + radix + ";", 2, 6);
            }
        }
        Due.is("not told", Due.told("size 4;").count(2), 2);
    }

    @Edge("order: 0 or 1 (0).")
    static void promise3Orders() {
        Due.is("order 0", Due.told("order 0;").count(3), 0);
        Due.is("order 1", Due.told("order 1;").count(3), 1);
        Due.is("not told", Due.told("size 4;").count(3), 0);
        Due.fault("order 2;", 2, 6);
        Due.fault("order 10;", 2, 6);
    }

    @Edge("near: 0 CUT or 1 NEAREST (1).")
    static void promise3Roundings() {
        Due.is("near 0", Due.told("near 0;").count(4), 0);
        Due.is("near 1", Due.told("near 1;").count(4), 1);
        Due.is("not told", Due.told("size 4;").count(4), 1);
        Due.fault("near 2;", 2, 5);
        Due.fault("near 10;", 2, 5);
    }

    @Edge("seed: 0 .. 99999 (0).")
    static void promise3Seeds() {
        String wave = "size 2;bits 8;real 0 50;";
        for (int seed : new int[] {0, 1, 99998, 99999}) {
            BlockWave w = Due.told(wave + "seed " + seed + ";");
            for (int a = 1; a <= 30; a++) {
                Due.is("seed " + seed + " by " + a, w.chance(-1, a, 1), w.chance(seed, a, 1));
            }
        }
        BlockWave untold = Due.told(wave);
        for (int a = 1; a <= 30; a++) {
            Due.is("not told, by " + a, untold.chance(-1, a, 1), untold.chance(0, a, 1));
        }
        Due.fault("seed 100000;", 2, 5);
        Due.fault("seed 2147483648;", 2, 5);
    }

    @Edge("A POINT: RE and IM, 0 at first")
    static void promise3PointsAre0AtFirst() {
        BlockWave w = Due.told("size 4;real 1 5;down 2 6;");
        Due.points("told", w, 0, 0, 5, 0, 0, -6, 0, 0);
    }

    @Edge("real, less: of a POINT by its number (from 0 on) RE is a value or as much below 0; side, down: IM likewise")
    static void promise3TheFirstPointAndTheLast() {
        for (int size = 2; size <= 32; size *= 2) {
            int last = size - 1;
            BlockWave w = Due.told("size " + size + ";real 0 3;down 0 4;less " + last + " 5;side " + last + " 6;");
            Due.is("real 0", w.point(0, 0), 3);
            Due.is("down 0", w.point(0, 1), -4);
            Due.is("less " + last, w.point(last, 0), -5);
            Due.is("side " + last, w.point(last, 1), 6);
            Due.is("as it was: real 0", w.point(0, 2), 3);
            Due.is("as it was: side " + last, w.point(last, 3), 6);
        }
    }

    @Edge("a value is LIMIT at most")
    static void promise3ValuesUpToLimit() {
        for (int bits = 8; bits <= 16; bits++) {
            int limit = (1 << bits - 1) - 1;
            String head = "bits " + bits + ";";
            for (String word : OF_POINTS) {
                String line = head + word + " 0 ";
                BlockWave w = Due.told(line + limit + ";");
                Due.is(line + limit, w.largest(), limit);
                Due.fault(line + (limit + 1) + ";", 2, line.length());
            }
        }
        lines("real 0 0;less 1 0;side 0 0;down 1 0;", 4);
    }

    // ---- 4: faults

    @Edge("Of the latest text() that was not -2")
    static void promise4ATextThatIsNoneLeavesTheFault() {
        BlockWave w = new BlockWave();
        Due.tell(w, "size 3;");
        w.text(5);
        w.text(-1);
        Due.is("fault(0)", w.fault(0), 2);
        Due.is("fault(1)", w.fault(1), 5);
        Due.tell(w, "?");
        Due.is("the latest: fault(0)", w.fault(0), 1);
        Due.is("the latest: fault(1)", w.fault(1), 0);
        w.text(0);
        Due.is("one without lines: fault(0)", w.fault(0), 0);
        Due.is("one without lines: fault(1)", w.fault(1), -1);
        w.text(1);
        Due.is("none: fault(0)", w.fault(0), 0);
    }

    @Edge("what 0: its FAULT (0), 1: its place (NONE without)")
    static void promise4WithoutAFault() {
        BlockWave w = new BlockWave();
        Due.is("at first: fault(0)", w.fault(0), 0);
        Due.is("at first: fault(1)", w.fault(1), -1);
        Due.tell(w, "size 3;");
        Due.tell(w, "size 4;");
        Due.is("told: fault(0)", w.fault(0), 0);
        Due.is("told: fault(1)", w.fault(1), -1);
    }

    @Edge("NONE for another what")
    static void promise4AnotherWhat() {
        BlockWave w = new BlockWave();
        Due.tell(w, "near 0;size 3;");
        for (int what : Due.outside(2)) {
            Due.is("fault(" + what + ")", w.fault(what), -1);
        }
        Due.is("the place", w.fault(1), 12);
    }

    @Edge("FAULTS, the first along the text (of one place the least), with its place")
    static void promise4TheFirstAlongTheText() {
        Due.fault("size 3;?", 2, 5);
        Due.fault("?size 3;", 1, 0);
        Due.fault("near 0;near 5;", 3, 7);
        Due.fault("near 5;near 0;", 2, 5);
        Due.fault("real 8 99999;", 2, 5);
        Due.fault("real 0 1;less 0 99999;", 3, 14);
        Due.fault("real 0 99999;less 0 1;", 2, 7);
        Due.fault("near 0;near", 3, 7);
        Due.fault("size 3", 2, 5);
        Due.fault("real 0 1;size 3;", 1, 9);
    }

    @Edge("(of one place the least)")
    static void promise4OfOnePlaceTheLeast() {
        // Told already and behind a point: 1 of 1 and 3.
        Due.fault("size 8;real 0 1;size 8;", 1, 16);
        Due.fault("bits 8;real 0 1;bits 8;", 1, 16);
        // Too much where no number can stand: 1 of 1 and 2.
        Due.fault("100000;", 1, 0);
        Due.fault("near 0 100000;", 1, 7);
        Due.fault("real 0 1 100000;", 1, 9);
    }

    @Edge("1 a TOKEN that is none (another word, too) or can't stand there")
    static void promise4ATokenThatIsNone() {
        for (char sign : new char[] {0, 9, 13, 31, 33, 47, 58, 60, 64, 65, 90, 91, 96, 123, 127, 128, 160, 255}) {
            Due.fault("" + sign, 1, 0);
            Due.fault("near" + sign + "0;", 1, 4);
            Due.fault("near 0" + sign + ";", 1, 6);
            Due.fault("near 0;" + sign, 1, 7);
        }
    }

    @Edge("(another word, too)")
    static void promise4AnotherWord() {
        for (String[] words : new String[][] {SETTINGS, OF_POINTS}) {
            for (String word : words) {
                String rest = words == SETTINGS ? " 2;" : " 0 0;";
                Due.fault(word + "s" + rest, 1, 0);
                Due.fault(word + word + rest, 1, 0);
                Due.fault(word.substring(0, word.length() - 1) + rest, 1, 0);
                Due.fault(word.substring(1) + rest, 1, 0);
                Due.fault(word.toUpperCase() + rest, 1, 0);
                for (int at = 0; at < word.length(); at++) {
                    Due.fault(word.substring(0, at) + "y" + word.substring(at + 1) + rest, 1, 0);
                }
            }
        }
        Due.fault("near 0;point 0 0;", 1, 7);
        Due.fault("near zero;", 1, 5);
        Due.fault("a;", 1, 0);
        Due.fault("abcdefghijklmnopqrstuvwxyz;", 1, 0);
    }

    @Edge("or can't stand there")
    static void promise4ATokenThatCantStandThere() {
        Due.fault("8;", 1, 0);
        Due.fault(";", 1, 0);
        for (String word : SETTINGS) {
            String line = word + " " + numberOf(word);
            Due.fault(word + " ;", 1, word.length() + 1);
            Due.fault(word + " " + word + ";", 1, word.length() + 1);
            Due.fault(line + " 2;", 1, line.length() + 1);
            Due.fault(line + " near 0;", 1, line.length() + 1);
        }
        for (String word : OF_POINTS) {
            Due.fault(word + " ;", 1, 5);
            Due.fault(word + " real 0;", 1, 5);
            Due.fault(word + " 0;", 1, 6);
            Due.fault(word + " 0 less;", 1, 7);
            Due.fault(word + " 0 0 0;", 1, 9);
            Due.fault(word + " 0 0 " + word + " 1 0;", 1, 9);
        }
    }

    @Edge("the length, if more must come")
    static void promise4TheLengthIfMoreMustCome() {
        for (String text : new String[] {"size", "size 4", "near 0;size", "real", "real 0", "real 0 1", "near 0;down 0 1"}) {
            Due.fault(text, 1, text.length());
            Due.fault(text + " ", 1, text.length() + 1);
            Due.fault(text + "\n \n", 1, text.length() + 3);
        }
        // The bytes asked for are the text: what is on the tape behind them isn't.
        BlockWave w = new BlockWave();
        int[] n = Due.numbers("near 0;");
        w.feed(n[0], n[1], n[2], n[3], n[4]);
        Due.is("text(6)", w.text(6), -1);
        Due.is("its place", w.fault(1), 6);
        lines("near 0;   ", 1);
    }

    @Edge("size, bits behind one of real, less, side, down")
    static void promise4SizeAndBitsBehindAPoint() {
        for (String word : OF_POINTS) {
            Due.fault(word + " 0 0;size 8;", 1, 9);
            Due.fault(word + " 0 0;bits 16;", 1, 9);
            Due.fault(word + " 0 0;near 0;size 8;", 1, 16);
            lines(word + " 0 0;radix 4;order 1;near 0;seed 3;", 5);
        }
        lines("radix 4;order 1;near 0;seed 3;size 2;bits 8;real 0 0;", 7);
    }

    @Edge("2 too much (at it): a number beyond what is said (another size, radix; a POINT that isn't there; "
            + "a value above LIMIT, above 99999 in any case).")
    static void promise4ANumberBeyondWhatIsSaid() {
        Due.fault("size    1;", 2, 8);
        Due.fault("near 0;bits 17;", 2, 12);
        Due.fault("near 0;bits 7;", 2, 12);
        Due.fault("near 0;radix 3;", 2, 13);
        Due.fault("near 0;order 2;", 2, 13);
        Due.fault("order 0;near 2;", 2, 13);
        Due.fault("order 0;seed 100000;", 2, 13);
    }

    @Edge("a POINT that isn't there")
    static void promise4APointThatIsntThere() {
        for (String word : OF_POINTS) {
            Due.fault(word + " 8 0;", 2, 5);
            for (int size = 2; size <= 32; size *= 2) {
                String head = "size " + size + ";" + word + " ";
                lines(head + (size - 1) + " 0;", 2);
                Due.fault(head + size + " 0;", 2, head.length());
                Due.fault(head + "99999 0;", 2, head.length());
            }
        }
    }

    @Edge("a value above LIMIT")
    static void promise4AValueAboveLimit() {
        for (String word : OF_POINTS) {
            Due.fault(word + " 0 32768;", 2, 7);
            Due.fault("bits 8;" + word + " 0 128;", 2, 14);
            Due.fault("bits 8;" + word + " 7 99999;", 2, 14);
        }
    }

    @Edge("above 99999 in any case")
    static void promise4NumbersThatWouldWrapAround() {
        // As many as 2 to the 32, to the 64, to the 31 would leave 0 and more where digits are taken without care.
        String[] far = {"100000", "2147483648", "4294967296", "4294967300", "18446744073709551616", "18446744073709551620",
            "1" + "0".repeat(40), "9".repeat(200)};
        for (String number : far) {
            for (String word : SETTINGS) {
                Due.fault(word + " " + number + ";", 2, word.length() + 1);
            }
            for (String word : OF_POINTS) {
                Due.fault(word + " " + number + " 0;", 2, 5);
                Due.fault(word + " 0 " + number + ";", 2, 7);
            }
        }
    }

    @Edge("3 told already: size, bits, radix, order, near, seed (at the word)")
    static void promise4SettingsToldAlready() {
        for (String word : SETTINGS) {
            String line = word + " " + numberOf(word) + ";";
            Due.fault(line + line, 3, line.length());
            Due.fault(line + "  " + word + " 100000;", 3, line.length() + 2);
            Due.fault(line + word, 3, line.length());
        }
        String all = "seed 2;near 1;order 1;radix 2;bits 8;size 2;";
        for (String word : SETTINGS) {
            Due.fault(all + word + " " + numberOf(word) + ";", 3, all.length());
        }
        lines("seed 2;near 1;order 1;radix 2;bits 8;size 2;", 6);
    }

    @Edge("RE, IM of a POINT (at its number).")
    static void promise4PointsToldAlready() {
        for (String first : OF_POINTS) {
            for (String second : OF_POINTS) {
                boolean sameRow = (first.equals("real") || first.equals("less")) == (second.equals("real") || second.equals("less"));
                for (int point : new int[] {0, 7}) {
                    String text = first + " " + point + " 0;" + second + " " + point + " 0;";
                    if (sameRow) {
                        Due.fault(text, 3, 14);
                        Due.fault(first + " " + point + " 0;" + second + " 0" + point + "", 3, 14);
                    } else {
                        lines(text, 2);
                    }
                    lines(first + " " + point + " 0;" + second + " 3 0;", 2);
                }
                String last = "size 32;" + first + " 31 1;" + second + " ";
                if (sameRow) {
                    Due.fault(last + "31 1;", 3, last.length());
                }
            }
        }
    }
}
