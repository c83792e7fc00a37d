/** Promise by promise, with answers worked out by hand from the document. */
public final class PromisesTest {
    private static final int LEAST = Integer.MIN_VALUE;
    private static final int MOST = Integer.MAX_VALUE;

    /** One point of 1 at place 1: its notes are the turns themselves, rounded. */
    private static final String ONE = "size 8; real 1 1;";

    private PromisesTest() {
    }

    public static void main(String[] args) {
        p1();
        p2();
        p3();
        p3Text();
        p4();
        p4Faults();
        p5();
        p6();
        p7();
        p8();
        p9();
        p10();
        p10Wings();
        p10Halving();
        p11();
        p12();
        p13();
        p14p15();
        p16();
        p17();
        p18p19();
        p20();
        p21();
        p22();
        p23();
        p24();
        p25();
        p26();
        p27();
        p28();
        p29();
        p30();
        p31();
        p32();
        p33();
        p34();
        p35p36p37();
        p38();
        p39();
        p40();
        p41();
        p42p43();
        p44();
        p45();
        p46();
        p47p48();
        p49();
        p50();
        p51();
        p52();
        p53();
        p54();
        p55p56();
        p57();
        Due.end("PromisesTest");
    }

    private static void p1() {
        BlockWave w = new BlockWave();
        int[] counts = {8, 16, 2, 0, 1, 3, 0, 0, 0, 32767, 0, 0, 0};
        for (int what = 0; what < counts.length; what++) {
            Due.is("a new object's count(" + what + ")", w.count(what), counts[what]);
        }
        Due.is("a new object's fault(0)", w.fault(0), 0);
        Due.is("a new object's fault(1)", w.fault(1), -1);
        Due.points("a new object", w, 0, 0, 0, 0, 0, 0, 0, 0, 0, 0, 0, 0, 0, 0, 0, 0);
        Due.is("an empty tape", w.text(1), -2);
        Due.is("no image", w.back(), -1);
        Due.is("NONE", BlockWave.NONE, -1);
    }

    private static void p2() {
        BlockWave w = new BlockWave();
        for (int i = 1; i <= 35; i++) {
            Due.is("feed " + i, w.feed(0x20202020, 0x20202020, 0x20202020, 0x20202020, 0x20202020), 20 * i);
        }
        Due.is("feed beyond 700", w.feed(1, 2, 3, 4, 5), -1);
        Due.is("none came", w.text(701), -2);
        Due.is("all 700", w.text(700), 0);
        // The highest byte first, and a byte above 127 is a sign that is none.
        w.feed(0x6E656172, 0x20303B20, 0x20202020, 0x20202020, 0x202020E9);
        Due.is("the highest first", w.text(19), 1);
        Due.is("near 0 was told", w.count(4), 0);
        w.feed(0x6E656172, 0x20303B20, 0x20202020, 0x20202020, 0x202020E9);
        Due.is("byte 233", w.text(20), -1);
        Due.is("byte 233 is at 19", w.fault(1), 19);
        w.feed(0xFFFFFFFF, 0, 0, 0, 0);
        Due.is("bytes 255", w.text(20), -1);
        Due.is("at once", w.fault(1), 0);
    }

    private static void p3() {
        BlockWave w = new BlockWave();
        Due.is("text(-1)", w.text(-1), -2);
        Due.is("text of the least", w.text(LEAST), -2);
        Due.is("text(0)", w.text(0), 0);
        w.feed(0x73697A65, 0x20323B20, 0x20202020, 0x20202020, 0x20202020);
        Due.is("text(21)", w.text(21), -2);
        Due.is("the tape stays", w.feed(0, 0, 0, 0, 0), 40);
        Due.is("the first 7", w.text(7), 1);
        Due.is("size 2", w.count(0), 2);
        Due.is("the tape is empty then", w.text(1), -2);

        w = Due.told("size 4; bits 12; radix 4; order 1; near 0; seed 99999; real 3 2047; less 0 7; side 0 9; down 2 1;");
        int[] counts = {4, 12, 4, 1, 0, 1, 0, 0, 0, 2047, 0, 0, 0};
        for (int what = 0; what < counts.length; what++) {
            Due.is("told count(" + what + ")", w.count(what), counts[what]);
        }
        Due.points("told", w, -7, 9, 0, 0, 0, -1, 2047, 0);
        // A fault empties the tape and leaves the rest; what is told anew leaves nothing.
        w.note(0, 1, true);
        w.known(0);
        w.set(1, 5, 5);
        w.keep();
        w.beat();
        Due.is("with a fault", Due.tell(w, "size 4; size 4;"), -1);
        Due.is("the tape is empty with a fault, too", w.text(1), -2);
        Due.is("stages stay", w.count(6), 1);
        Due.is("notes stay", w.count(10), 1);
        Due.is("known stays", w.count(11), 0);
        Due.is("what can be undone stays", w.count(12), 2);
        Due.is("bits stay", w.count(1), 12);
        Due.is("the image stays", w.back(), 0);
        Due.is("beat", w.beat(), 3);
        Due.is("told anew", Due.tell(w, "real 1 3;"), 1);
        Due.is("size anew", w.count(0), 8);
        Due.is("bits anew", w.count(1), 16);
        Due.is("no stage", w.count(6), 0);
        Due.is("exp 0", w.count(8), 0);
        Due.is("no notes", w.count(10), 0);
        Due.is("nothing to undo", w.undo(), -1);
        Due.is("no image", w.back(), -1);
        Due.is("all known", w.note(0, 0, true) + w.count(11), 1);
        w.beatAll();
        w.turnBack();
        Due.tell(w, "size 2;");
        Due.is("not back", w.count(7), 0);
        Due.yes("it can be set again", w.set(0, 1, 1));
    }

    private static void p3Text() {
        Due.is("no lines", Due.tell(new BlockWave(), " \n \n"), 0);
        Due.is("without blanks", Due.tell(new BlockWave(), "size4;real0 5;less1 6;"), 3);
        Due.is("with all blanks", Due.tell(new BlockWave(), "\n size \n 4 \n ; real 0\n5 ;\n"), 2);
        Due.is("noughts ahead", Due.tell(new BlockWave(), "size 00000000000000000000008;bits 016;near 00;"), 3);
        Due.is("settings behind points", Due.tell(new BlockWave(), "real 0 1;radix 4;order 1;near 0;seed 5;"), 5);
        Due.is("all of one point", Due.tell(new BlockWave(), "real 0 1;side 0 1;less 7 32767;down 7 32767;"), 4);
        Due.is("largest seed", Due.tell(new BlockWave(), "seed 99999;"), 1);
        Due.is("points of 32", Due.tell(new BlockWave(), "size 32;real 31 0;"), 2);
    }

    private static void p4() {
        BlockWave w = new BlockWave();
        Due.tell(w, "size 3;");
        Due.is("fault(0)", w.fault(0), 2);
        Due.is("fault(1)", w.fault(1), 5);
        Due.is("fault(2)", w.fault(2), -1);
        Due.is("fault(-1)", w.fault(-1), -1);
        Due.is("one that is -2", w.text(5), -2);
        Due.is("doesn't count", w.fault(0), 2);
        Due.tell(w, "size 4;");
        Due.is("none: fault(0)", w.fault(0), 0);
        Due.is("none: fault(1)", w.fault(1), -1);
    }

    private static void p4Faults() {
        // 1: no token, another word, what can't stand there, the length.
        Due.fault("?", 1, 0);
        Due.fault("size 4;\t", 1, 7);
        Due.fault("Size 4;", 1, 0);
        Due.fault("siz 4;", 1, 0);
        Due.fault("sizes 4;", 1, 0);
        Due.fault("radixx 4;", 1, 0);
        for (String word : new String[] {"size", "bits", "radix", "order", "near", "seed", "real", "less", "side", "down"}) {
            otherWords(word);
        }
        Due.fault(" 4;", 1, 1);
        Due.fault(";", 1, 0);
        Due.fault("size ;", 1, 5);
        Due.fault("size size;", 1, 5);
        Due.fault("size -4;", 1, 5);
        Due.fault("size 4 4;", 1, 7);
        Due.fault("size 4 100000;", 1, 7);
        Due.fault("size 4;;", 1, 7);
        Due.fault("size 4 real 0 1;", 1, 7);
        Due.fault("size", 1, 4);
        Due.fault("size 4", 1, 6);
        Due.fault("size 4  \n", 1, 9);
        Due.fault("real 0", 1, 6);
        Due.fault("real 0 ;", 1, 7);
        Due.fault("real 0 1", 1, 8);
        Due.fault("real 0 1 2;", 1, 9);
        for (String word : new String[] {"real", "less", "side", "down"}) {
            Due.fault(word + " 0 1;size 4;", 1, 9);
            Due.fault(word + " 0 1;bits 9;", 1, 9);
        }
        // At one place the least: behind a point size can't stand, told already or not.
        Due.fault("size 8;real 0 1;size 8;", 1, 16);
        // 2: numbers beyond what is said, at them.
        for (int size : new int[] {0, 1, 3, 5, 6, 7, 9, 31, 33, 64, 100000}) {
            Due.fault("size " + size + ";", 2, 5);
        }
        Due.fault("bits 7;", 2, 5);
        Due.fault("bits 17;", 2, 5);
        Due.fault("radix 0;", 2, 6);
        Due.fault("radix 3;", 2, 6);
        Due.fault("radix 8;", 2, 6);
        Due.fault("order 2;", 2, 6);
        Due.fault("near 2;", 2, 5);
        Due.fault("seed 100000;", 2, 5);
        Due.fault("seed 4294967296;", 2, 5);
        Due.fault("size 18446744073709551620;", 2, 5);
        Due.fault("real 8 1;", 2, 5);
        Due.fault("size 2;side 2 1;", 2, 12);
        Due.fault("size 32;down 32 1;", 2, 13);
        Due.fault("real 0 32768;", 2, 7);
        Due.fault("less 0 32768;", 2, 7);
        Due.fault("bits 9;side 0 256;", 2, 14);
        Due.fault("bits 9;down 0 256;", 2, 14);
        Due.fault("real 0 4294967297;", 2, 7);
        Due.fault("real 4294967296 1;", 2, 5);
        // Without what comes behind: the first along the text.
        Due.fault("size 3", 2, 5);
        Due.fault("size 3?", 2, 5);
        Due.fault("real 9 99999;", 2, 5);
        // 3: told already.
        for (String line : new String[] {"size 8;", "bits 9;", "radix 2;", "order 0;", "near 1;", "seed 0;"}) {
            Due.fault(line + line, 3, line.length());
            Due.fault(line + " " + line.substring(0, 5), 3, line.length() + 1);
        }
        Due.fault("real 0 1;real 0 1;", 3, 14);
        Due.fault("less 0 0;real 00 99999;", 3, 14);
        Due.fault("side 1 1;down 1 1;", 3, 14);
        Due.fault("down 1 1;side 1", 3, 14);
    }

    /** One letter less, one more, another, or a great one. */
    private static void otherWords(String word) {
        Due.fault(word + "s 0 0;", 1, 0);
        Due.fault(" " + word.substring(1) + " 0 0;", 1, 1);
        for (int at = 0; at < word.length(); at++) {
            String ahead = word.substring(0, at);
            String behind = word.substring(at + 1);
            Due.fault(ahead + "y" + behind + " 0 0;", 1, 0);
            Due.fault(ahead + "Y" + behind + " 0 0;", 1, 0);
        }
    }

    private static void p5() {
        BlockWave w = Due.told("size 4;real 0 1;side 1 2;less 2 3;down 3 4;");
        w.beatAll();
        Due.is("RE now", w.point(0, 0), -2);
        Due.is("IM now", w.point(0, 1), -2);
        Due.is("RE as it was", w.point(2, 2), -3);
        Due.is("IM as it was", w.point(3, 3), -4);
        Due.is("point(3, 3)", Due.thrownBy(w, 3, 3), 0);
        Due.is("point(4, 0)", Due.thrownBy(w, 4, 0), 1);
        Due.is("point(-1, 0)", Due.thrownBy(w, -1, 0), 1);
        Due.is("point of the least", Due.thrownBy(w, LEAST, 0), 1);
        Due.is("point of the most", Due.thrownBy(w, MOST, 3), 1);
        Due.is("point(0, 4)", Due.thrownBy(w, 0, 4), 2);
        Due.is("point(0, -1)", Due.thrownBy(w, 0, -1), 2);
        Due.is("both wrong: the place first", Due.thrownBy(w, 4, 4), 1);
    }

    private static void p6() {
        BlockWave w = Due.told("size 32;");
        int[] cos = {16384, 16069, 15137, 13623, 11585, 9102, 6270, 3196, 0, -3196, -6270, -9102, -11585, -13623, -15137, -16069,
            -16384, -16069, -15137, -13623, -11585, -9102, -6270, -3196, 0, 3196, 6270, 9102, 11585, 13623, 15137, 16069};
        for (int j = 0; j < 32; j++) {
            Due.is("turn(" + j + ", 0)", w.turn(j, 0), cos[j]);
            Due.is("turn(" + j + ", 1)", w.turn(j, 1), -cos[(j + 24) % 32]);
        }
        Due.is("turn(32, 0)", w.turn(32, 0), LEAST);
        Due.is("turn(-1, 0)", w.turn(-1, 0), LEAST);
        Due.is("turn(0, 2)", w.turn(0, 2), LEAST);
        Due.is("turn(0, -1)", w.turn(0, -1), LEAST);
        w = Due.told("size 2;");
        Due.is("of 2: turn(1, 0)", w.turn(1, 0), -16384);
        Due.is("of 2: turn(1, 1)", w.turn(1, 1), 0);
        Due.is("of 2: turn(2, 0)", w.turn(2, 0), LEAST);
        Due.is("of 16: turn(1, 1)", Due.told("size 16;").turn(1, 1), -6270);
    }

    private static void p7() {
        BlockWave w = Due.told("size 8;");
        int[] byTwo = {0, 4, 2, 6, 1, 5, 3, 7};
        // Stages 2, 4: d1 of 4, d2 of 2: 2 times d1, and d2.
        int[] byFour = {0, 2, 4, 6, 1, 3, 5, 7};
        // Stages 4, 2: d1 of 2, d2 of 4: 4 times d1, and d2.
        int[] byFourBehind = {0, 4, 1, 5, 2, 6, 3, 7};
        BlockWave four = Due.told("size 8;radix 4;");
        BlockWave behind = Due.told("size 8;radix 4;order 1;");
        for (int place = 0; place < 8; place++) {
            Due.is("reversed(" + place + ")", w.reversed(place), byTwo[place]);
            Due.is("radix 4: reversed(" + place + ")", four.reversed(place), byFour[place]);
            Due.is("radix 4, order 1: reversed(" + place + ")", behind.reversed(place), byFourBehind[place]);
        }
        Due.is("reversed(8)", w.reversed(8), -1);
        Due.is("reversed(-1)", w.reversed(-1), -1);
        w = Due.told("size 16;radix 4;");
        Due.is("16 by 4: reversed(1)", w.reversed(1), 4);
        Due.is("16 by 4: reversed(11)", w.reversed(11), 14);
        w = Due.told("size 32;radix 4;");
        // 27 is 3 and 4 times (2 and 4 times 1): (3 times 4 and 2) times 2 and 1.
        Due.is("32 by 4: reversed(27)", w.reversed(27), 29);
        w = Due.told("size 32;radix 4;order 1;");
        // 27 is 1 and 2 times (1 and 4 times 3): (1 times 4 and 1) times 4 and 3.
        Due.is("32 by 4, order 1: reversed(27)", w.reversed(27), 23);
    }

    private static void stages(String text, int... radices) {
        BlockWave w = Due.told(text);
        Due.is(text + " count(5)", w.count(5), radices.length);
        for (int stage = 0; stage < radices.length; stage++) {
            Due.is(text + " stage(" + stage + ", 0)", w.stage(stage, 0), radices[stage]);
        }
        Due.is(text + " one more", w.stage(radices.length, 0), -1);
    }

    private static void p8() {
        stages("size 2;", 2);
        stages("size 2;radix 4;", 2);
        stages("size 2;radix 4;order 1;", 2);
        stages("size 4;radix 4;", 4);
        stages("size 8;radix 4;", 2, 4);
        stages("size 8;radix 4;order 1;", 4, 2);
        stages("size 16;radix 4;order 1;", 4, 4);
        stages("size 32;radix 4;", 2, 4, 4);
        stages("size 32;radix 4;order 1;", 4, 4, 2);
        stages("size 32;order 1;", 2, 2, 2, 2, 2);
        BlockWave w = Due.told("size 4;bits 8;real 0 127;real 1 127;real 2 127;real 3 127;");
        Due.is("not done yet", w.stage(1, 1), -2);
        w.beat();
        Due.is("of the first", w.stage(0, 1), 2);
        Due.is("of the second, not yet", w.stage(1, 1), -2);
        w.beat();
        // 32 and 32 is 64: 320 is more than 254.
        Due.is("of the second", w.stage(1, 1), 1);
        w.turnBack();
        Due.is("back: not yet", w.stage(0, 1), -2);
        w.beat();
        // 64 again: 32, and 32 of all.
        Due.is("back: the first", w.stage(0, 1), 1);
        Due.is("back: the second, not yet", w.stage(1, 1), -2);
        w.beat();
        Due.is("back: the second", w.stage(1, 1), 0);
        Due.is("stage(-1, 0)", w.stage(-1, 0), -1);
        Due.is("stage(2, 1)", w.stage(2, 1), -1);
        Due.is("stage(0, 2)", w.stage(0, 2), -1);
        Due.is("stage(0, -1)", w.stage(0, -1), -1);
    }

    private static void p9() {
        BlockWave w = Due.told("size 2;bits 8;");
        Due.yes("set(0, 127, -127)", w.set(0, 127, -127));
        Due.is("RE", w.point(0, 0), 127);
        Due.is("IM", w.point(0, 1), -127);
        Due.is("RE as it was", w.point(0, 2), 127);
        Due.is("IM as it was", w.point(0, 3), -127);
        Due.no("set(0, 128, 0)", w.set(0, 128, 0));
        Due.no("set(0, -128, 0)", w.set(0, -128, 0));
        Due.no("set(0, 0, 128)", w.set(0, 0, 128));
        Due.no("set(0, 0, -128)", w.set(0, 0, -128));
        Due.no("set of the least", w.set(0, LEAST, 0));
        Due.no("set of the least beside", w.set(0, 0, LEAST));
        Due.no("set(2, 0, 0)", w.set(2, 0, 0));
        Due.no("set(-1, 0, 0)", w.set(-1, 0, 0));
        Due.is("only one to undo", w.count(12), 1);
        w.beat();
        Due.no("a stage is done", w.set(0, 0, 0));
        w.turnBack();
        Due.no("it went back", w.set(0, 0, 0));
        w.beat();
        Due.no("it is done back", w.set(0, 0, 0));
    }

    private static void p10() {
        BlockWave w = Due.told("size 2;real 0 3;real 1 1;side 1 5;");
        Due.is("beat()", w.beat(), 0);
        Due.points("beaten", w, 4, 5, 2, -5);
        Due.is("beat() when done", w.beat(), -2);
        w.turnBack();
        Due.points("turned", w, 4, -5, 2, 5);
        Due.is("beat() back", w.beat(), 0);
        Due.points("back", w, 6, 0, 2, 10);
        Due.is("exp", w.count(8), -1);
        Due.is("beat() when done back", w.beat(), -2);
        // Stages of four places, one by one: sums of pairs, then of these.
        w = Due.told("size 4;real 0 1;real 1 2;real 2 4;real 3 8;");
        w.beat();
        Due.points("order 0, the first", w, 5, 0, -3, 0, 10, 0, -6, 0);
        w.beat();
        Due.points("order 0, the second", w, 15, 0, -3, 6, -5, 0, -3, -6);
        w = Due.told("size 4;order 1;real 0 1;real 1 2;real 2 4;real 3 8;");
        w.beat();
        Due.points("order 1, the first", w, 5, 0, 10, 0, -3, 0, 0, 6);
        w.beat();
        Due.points("order 1, the second", w, 15, 0, -3, 6, -5, 0, -3, -6);
        w = Due.told("size 4;radix 4;real 0 1;real 1 2;real 2 4;real 3 8;");
        w.beat();
        Due.points("radix 4", w, 15, 0, -3, 6, -5, 0, -3, -6);
        w = Due.told("size 4;radix 4;order 1;side 0 1;side 1 2;side 2 4;side 3 8;");
        w.beat();
        Due.points("radix 4, beside", w, 0, 15, -6, -3, 0, -5, 6, -3);
    }

    private static void p10Wings() {
        int[] nearest = {1, 0, 1, -1, 0, -1, -1, -1, -1, 0, -1, 1, 0, 1, 1, 1};
        int[] cut = {1, 0, 0, -1, 0, -1, -1, -1, -1, 0, 0, 1, 0, 1, 1, 1};
        int[] cutBehind = {1, 0, 0, -1, 0, -1, -1, 0, -1, 0, 0, 1, 0, 1, 1, 0};
        String[] shapes = {"", "radix 4;", "order 1;", "radix 4;order 1;"};
        for (String shape : shapes) {
            BlockWave w = Due.told(ONE + shape);
            w.beatAll();
            Due.points("nearest " + shape, w, nearest);
        }
        BlockWave w = Due.told(ONE + "near 0;");
        w.beatAll();
        Due.points("cut, order 0", w, cut);
        w = Due.told(ONE + "near 0;order 1;");
        w.beatAll();
        Due.points("cut, order 1", w, cutBehind);
        // 7487 times 11585 is 1 less than 5294 times 16384; 705 and 8192 of them are at the edge of two halves.
        Due.is("cut, just below", done("size 8;near 0;real 1 7487;").point(1, 0), 5293);
        Due.is("nearest, just below a half", done("size 8;less 1 705;").point(1, 0), -499);
        Due.is("nearest, a half", done("size 8;real 1 8192;").point(1, 0), 5793);
        Due.is("nearest, a half below 0", done("size 8;less 1 8192;").point(1, 0), -5792);
        // One point at a place is the same turn at all sizes, radices, orders, if it is great enough to see them all.
        for (int size = 2; size <= 32; size *= 2) {
            for (String shape : shapes) {
                turnsOf(size, shape);
            }
        }
    }

    private static void turnsOf(int size, String shape) {
        for (int place = 0; place < size; place++) {
            BlockWave w = Due.told("size " + size + ";real " + place + " 2000;" + shape);
            w.beatAll();
            for (int k = 0; k < size; k++) {
                double angle = 2 * Math.PI * place * k / size;
                boolean re = Math.abs(w.point(k, 0) - 2000 * Math.cos(angle)) < 4;
                boolean im = Math.abs(w.point(k, 1) + 2000 * Math.sin(angle)) < 4;
                Due.yes("size " + size + " " + shape + " point " + place + " at " + k, re && im);
            }
        }
    }

    /** How often all is halved in the first stage, by the largest value. */
    private static void halvings(String text, int value, int times, int re, int imBelow) {
        BlockWave w = Due.told("bits 8;" + text + "real 0 " + value + ";down 0 " + value + ";");
        Due.is(text + value + " beat()", w.beat(), times);
        Due.is(text + value + " RE", w.point(0, 0), re);
        Due.is(text + value + " IM", w.point(0, 1), imBelow);
        Due.is(text + value + " exp", w.count(8), times);
    }

    private static void p10Halving() {
        halvings("size 2;", 50, 0, 50, -50);
        halvings("size 2;", 51, 1, 26, -25);
        halvings("size 2;near 0;", 51, 1, 25, -26);
        halvings("size 2;radix 4;", 51, 1, 26, -25);
        halvings("size 2;order 1;", 42, 0, 42, -42);
        halvings("size 2;order 1;", 43, 1, 22, -21);
        halvings("size 2;order 1;near 0;", 43, 1, 21, -22);
        halvings("size 4;radix 4;", 21, 0, 21, -21);
        halvings("size 4;radix 4;", 22, 1, 11, -11);
        halvings("size 4;radix 4;", 127, 3, 16, -15);
        halvings("size 4;radix 4;order 1;near 0;", 127, 3, 15, -16);
        halvings("size 2;", 127, 2, 32, -31);
        // Asked anew behind each: 101 is 51 by the first, which is too much yet.
        halvings("size 2;", 101, 2, 26, -25);
        halvings("size 2;near 0;", 101, 2, 25, -26);
        halvings("size 2;", 100, 1, 50, -50);
    }

    private static void p11() {
        BlockWave w = Due.told("size 4;bits 8;real 0 127;real 1 127;real 2 127;real 3 127;");
        w.beat();
        Due.is("beatAll()", w.beatAll(), 3);
        Due.is("nothing to undo", w.undo(), -1);
        Due.points("all", w, 64, 0, 0, 0, 0, 0, 0, 0);
        w.turnBack();
        Due.is("one to undo", w.count(12), 1);
        // 3 and 1 halved once more, less 2.
        Due.is("beatAll() back", w.beatAll(), 2);
        Due.points("all back", w, 32, 0, 32, 0, 32, 0, 32, 0);
        w = Due.told("size 2;");
        w.beat();
        Due.is("one to undo", w.count(12), 1);
        Due.is("beatAll() when all are done", w.beatAll(), 0);
        Due.is("nothing to undo then, too", w.count(12), 0);
    }

    private static void p12() {
        BlockWave w = Due.told("size 4;side 0 3;");
        Due.no("not done", w.turnBack());
        w.beat();
        Due.no("not all done", w.turnBack());
        w.beat();
        Due.yes("done", w.turnBack());
        Due.points("at once", w, 0, -3, 0, -3, 0, -3, 0, -3);
        Due.is("goes back", w.count(7), 1);
        Due.is("no stage done", w.count(6), 0);
        Due.no("it goes back", w.turnBack());
        w.beatAll();
        Due.no("it went back", w.turnBack());
        Due.points("back", w, 0, 12, 0, 0, 0, 0, 0, 0);
        Due.is("exp is 2 less", w.count(8), -2);
    }

    private static void p13() {
        BlockWave w = Due.told("size 4;bits 8;real 0 127;real 1 127;real 2 127;real 3 127;");
        int[][] due = {{0, 127, 0}, {2, 64, 2}, {3, 64, 3}, {3, 64, 3}, {3, 64, 3}, {3, 64, 3}};
        for (int stages = 0; stages < due.length; stages++) {
            for (int what = 0; what < 3; what++) {
                Due.is("ahead(" + stages + ", " + what + ")", w.ahead(stages, what), due[stages][what]);
            }
        }
        Due.is("all stays", w.count(6) + w.count(8) + w.count(12), 0);
        Due.is("ahead(6, 0)", w.ahead(6, 0), -1);
        Due.is("ahead(-1, 0)", w.ahead(-1, 0), -1);
        Due.is("ahead(0, 3)", w.ahead(0, 3), -1);
        Due.is("ahead(0, -1)", w.ahead(0, -1), -1);
        w.beat();
        Due.is("from the second on", w.ahead(5, 2), 1);
        Due.is("from the second on, exp", w.ahead(5, 0), 3);
        w.beat();
        w.turnBack();
        Due.is("back, one", w.ahead(1, 0), 4);
        Due.is("back, two: less 2", w.ahead(2, 0), 2);
        Due.is("back, halved", w.ahead(2, 2), 1);
    }

    private static void p14p15() {
        BlockWave w = Due.told("size 4;bits 9;real 0 3;less 3 17;down 2 63;");
        Due.is("largest()", w.largest(), 63);
        Due.is("left()", w.left(), 2);
        w.set(2, 0, 64);
        Due.is("left() of 64", w.left(), 1);
        w.set(2, 0, 127);
        Due.is("left() of 127", w.left(), 1);
        w.set(2, 0, 128);
        Due.is("left() of 128", w.left(), 0);
        w.set(2, -255, 0);
        Due.is("largest() of -255", w.largest(), 255);
        Due.is("left() of 255", w.left(), 0);
        w = new BlockWave();
        Due.is("left() of 0", w.left(), 15);
        Due.is("largest() of 0", w.largest(), 0);
        w.set(7, 0, -1);
        Due.is("left() of 1", w.left(), 14);
        w = Due.told("size 4;down 3 5;");
        w.beatAll();
        w.turnBack();
        w.beatAll();
        Due.is("largest() when gone back", w.largest(), 20);
        Due.is("left() when gone back", w.left(), 10);
    }

    private static void p16() {
        BlockWave w = Due.told("size 2;real 0 50;");
        Due.is("50 by 8", w.bits(), 8);
        w.set(0, 51, 0);
        Due.is("51 by 9", w.bits(), 9);
        w.set(0, 0, -13106);
        Due.is("13106 by 16", w.bits(), 16);
        w.set(0, 13107, 0);
        Due.is("13107 not by 16", w.bits(), -2);
        w = Due.told("size 2;order 1;real 0 42;");
        Due.is("42 by order 1", w.bits(), 8);
        w.set(0, 43, 0);
        Due.is("43 by order 1", w.bits(), 9);
        // What a word of 8 bits is told to hold isn't asked.
        w = Due.told("size 4;bits 8;real 0 50;real 2 50;");
        Due.is("the second stage counts", w.bits(), 9);
        w.beatAll();
        Due.is("from the points as they were", w.bits(), 9);
    }

    private static void p17() {
        BlockWave w = Due.told("size 8;real 1 3;side 1 5;");
        Due.is("direct(0, 0)", w.direct(0, 0), 3 * 16384);
        Due.is("direct(0, 1)", w.direct(0, 1), 5 * 16384);
        Due.is("direct(1, 0)", w.direct(1, 0), 3 * 11585 + 5 * 11585);
        Due.is("direct(1, 1)", w.direct(1, 1), 5 * 11585 - 3 * 11585);
        Due.is("direct(2, 0)", w.direct(2, 0), 5 * 16384);
        Due.is("direct(2, 1)", w.direct(2, 1), -3 * 16384);
        Due.is("direct(8, 0)", w.direct(8, 0), Long.MIN_VALUE);
        Due.is("direct(-1, 0)", w.direct(-1, 0), Long.MIN_VALUE);
        Due.is("direct(0, 2)", w.direct(0, 2), Long.MIN_VALUE);
        Due.is("direct(0, -1)", w.direct(0, -1), Long.MIN_VALUE);
        w = Due.told("size 8;real 7 2;");
        // 7 times 7 is 49: 1 modulo 8.
        Due.is("direct(7, 1)", w.direct(7, 1), -2 * 11585);
        w.beatAll();
        Due.is("direct(7, 1) when done", w.direct(7, 1), -2 * 11585);
        w = Due.told("size 32;");
        for (int i = 0; i < 32; i++) {
            w.set(i, 32767, 32767);
        }
        Due.is("more than an int", w.direct(0, 1), 32L * 32767 * 16384);
    }

    private static void p18p19() {
        BlockWave w = Due.told(ONE);
        Due.is("off(1), not done", w.off(1), -2);
        Due.is("worst(0), not done", w.worst(0), -2);
        Due.is("worst(1), not done", w.worst(1), -2);
        Due.is("off(8), not done: NONE goes ahead", w.off(8), -1);
        Due.is("worst(2), not done: NONE goes ahead", w.worst(2), -1);
        w.beatAll();
        Due.is("off(0)", w.off(0), 0);
        Due.is("off(1)", w.off(1), 16384 - 11585);
        Due.is("off(2)", w.off(2), 0);
        Due.is("off(3)", w.off(3), 16384 - 11585);
        Due.is("off(8)", w.off(8), -1);
        Due.is("off(-1)", w.off(-1), -1);
        Due.is("worst(0)", w.worst(0), 16384 - 11585);
        Due.is("worst(1)", w.worst(1), 1);
        Due.is("worst(-1)", w.worst(-1), -1);
        w.turnBack();
        Due.is("off, gone back", w.off(1), -2);
        Due.is("worst, gone back", w.worst(0), -2);
        w.beatAll();
        Due.is("off, done back", w.off(1), -2);
        w = Due.told(ONE + "near 0;");
        w.beatAll();
        Due.is("cut: off(1)", w.off(1), 11585);
        Due.is("cut: worst(0)", w.worst(0), 11585);
        w = Due.told("size 2;bits 8;real 0 51;down 1 7;");
        w.beatAll();
        // 26 and 26 by 2, -3 and 3 by 2.
        Due.is("halved: off(0)", w.off(0), 16384);
        Due.is("halved: off(1)", w.off(1), 16384);
        w = Due.told("size 2;bits 8;real 0 52;down 1 7;");
        w.beatAll();
        Due.is("by IM alone", w.worst(0), 16384);
    }

    private static void p20() {
        Due.is("nearest", Due.told(ONE).apart(), 0);
        Due.is("cut", Due.told(ONE + "near 0;").apart(), 1);
        Due.is("cut, told by order 1", Due.told(ONE + "near 0;order 1;").apart(), 1);
        // 43 stays by order 0, is 22 times 2 by order 1.
        BlockWave w = Due.told("size 2;bits 8;real 0 43;");
        Due.is("with exponents", w.apart(), 1);
        w.beatAll();
        Due.is("from the points as they were", w.apart(), 1);
        Due.is("by IM", Due.told("size 2;bits 8;side 0 43;").apart(), 1);
    }

    private static void p21() {
        BlockWave w = Due.told("size 2;real 0 3;down 1 4;");
        Due.is("energy(0)", w.energy(0), 25);
        Due.is("energy(1)", w.energy(1), 25);
        w.beat();
        Due.is("energy(0), done", w.energy(0), 50);
        Due.is("energy(1), done", w.energy(1), 25);
        Due.is("energy(2)", w.energy(2), -1);
        Due.is("energy(-1)", w.energy(-1), -1);
        w = Due.told("size 32;");
        for (int i = 0; i < 32; i++) {
            w.set(i, -32767, 32767);
        }
        Due.is("more than an int", w.energy(0), 64L * 32767 * 32767);
    }

    private static void p22() {
        BlockWave w = Due.told("size 4;bits 8;real 0 127;real 1 127;real 2 127;real 3 126;");
        int[] due = {127, 254, 507, 507, 507, 507};
        for (int stages = 0; stages < due.length; stages++) {
            Due.is("grown(" + stages + ")", w.grown(stages), due[stages]);
        }
        w.beatAll();
        Due.is("grown(1) from the points as they were", w.grown(1), 254);
        Due.is("grown(0) from the points as they were", w.grown(0), 127);
        Due.is("grown(6)", w.grown(6), -1);
        Due.is("grown(-1)", w.grown(-1), -1);
        w = Due.told("size 32;order 1;");
        for (int i = 0; i < 32; i++) {
            w.set(i, 32767, -32767);
        }
        Due.is("grown(5) of 32", w.grown(5), 32 * 32767);
    }

    private static void p23() {
        Due.is("exact", Due.told("size 4;real 0 100;less 2 30;side 3 5;").returned(), 0);
        // 51 is 26 by EXP 1, 26 both; back 52 and 0: 104, where 2 times 51 is 102.
        BlockWave w = Due.told("size 2;bits 8;real 0 51;");
        Due.is("of 51", w.returned(), 2);
        w.beatAll();
        Due.is("from the points as they were", w.returned(), 2);
        // Halved forward (101: 51, 26) and back (26 stays): 52 times 4 is 208, where 2 times 101 is 202.
        Due.is("of 101", Due.told("size 2;bits 8;real 0 101;").returned(), 6);
        // Forward 51 is 26; 26 and 26 is 52, which is 26 again (EXP 2), back 52: 208, where 4 times 51 is 204.
        w = Due.told("size 4;bits 8;real 0 51;real 2 51;");
        Due.is("halved twice", w.returned(), 4);
        Due.is("beside", Due.told("size 2;bits 8;side 1 51;").returned(), 2);
    }

    private static void p24() {
        BlockWave w = Due.told("size 4;real 0 100;real 1 5;down 1 5;real 2 7;less 3 1;");
        Due.yes("taper()", w.taper());
        Due.points("tapered, nearest", w, 0, 0, 3, -2, 7, 0, 0, 0);
        Due.is("as it was, too", w.point(1, 2), 3);
        Due.is("as it was beside, too", w.point(1, 3), -2);
        w = Due.told("size 4;near 0;real 0 100;real 1 5;down 1 5;real 2 7;less 3 1;");
        w.taper();
        Due.points("tapered, cut", w, 0, 0, 2, -3, 7, 0, -1, 0);
        w = Due.told("size 8;real 1 32767;less 3 32767;");
        w.taper();
        // 32767 times 4799 by 32768 is 4798.85; times 27969 below 0 is -27968.15.
        Due.is("of 8: 1", w.point(1, 0), 4799);
        Due.is("of 8: 3", w.point(3, 0), -27968);
        // 4799 times 25281 is just below a half of 32768 at the end, times 16384 a half; times 8897 cut just below.
        w = Due.told("size 8;real 1 25281;side 1 16384;less 7 16384;down 7 7487;");
        w.taper();
        Due.is("just below a half", w.point(1, 0), 3702);
        Due.is("a half", w.point(1, 1), 2400);
        Due.is("a half below 0", w.point(7, 0), -2399);
        Due.is("just below a half below 0", w.point(7, 1), -1097);
        w = Due.told("size 8;near 0;real 1 8897;side 1 16384;less 7 16384;down 7 7487;");
        w.taper();
        Due.is("cut, just below", w.point(1, 0), 1302);
        Due.is("cut, a half", w.point(1, 1), 2399);
        Due.is("cut, a half below 0", w.point(7, 0), -2400);
        Due.is("cut, below 0", w.point(7, 1), -1097);
        w.beat();
        Due.no("a stage is done", w.taper());
        w.beatAll();
        w.turnBack();
        Due.no("it went back", w.taper());
    }

    private static void p25() {
        BlockWave w = Due.told("size 4;real 0 1;real 1 2;real 2 3;side 3 4;");
        Due.yes("shift(1)", w.shift(1));
        Due.points("by 1", w, 0, 4, 1, 0, 2, 0, 3, 0);
        Due.is("as it was, too", w.point(0, 3), 4);
        Due.yes("shift(31)", w.shift(31));
        Due.points("by 31 more", w, 1, 0, 2, 0, 3, 0, 0, 4);
        Due.yes("shift(4)", w.shift(4));
        Due.points("by 4", w, 1, 0, 2, 0, 3, 0, 0, 4);
        Due.no("shift(0)", w.shift(0));
        Due.no("shift(32)", w.shift(32));
        Due.no("shift(-1)", w.shift(-1));
        Due.is("three to undo", w.count(12), 3);
        w.beat();
        Due.no("a stage is done", w.shift(1));
        w.beatAll();
        w.turnBack();
        Due.no("it went back", w.shift(1));
    }

    private static void p26() {
        BlockWave w = Due.told("size 4;real 0 1;real 1 2;real 2 4;real 3 8;");
        Due.is("not done", w.peak(0), -2);
        Due.is("NONE goes ahead", w.peak(4), -1);
        w.beatAll();
        // 15, (-3, 6), -5, (-3, -6): 225, 45, 25, 45.
        int[] due = {0, 1, 3, 2};
        for (int n = 0; n < 4; n++) {
            Due.is("peak(" + n + ")", w.peak(n), due[n]);
        }
        Due.is("peak(4)", w.peak(4), -1);
        Due.is("peak(-1)", w.peak(-1), -1);
        w.turnBack();
        Due.is("it goes back", w.peak(0), -2);
        Due.is("all alike", done("size 8;").peak(7), 7);
    }

    private static BlockWave done(String text) {
        BlockWave w = Due.told(text);
        w.beatAll();
        return w;
    }

    private static void p27() {
        BlockWave w = Due.told("size 4;real 0 3;down 0 4;real 1 5;real 2 32767;down 2 32767;");
        Due.is("over(0)", w.over(0), 4);
        Due.is("over(1)", w.over(1), 3);
        Due.is("over(25)", w.over(25), 3);
        Due.is("over(26)", w.over(26), 1);
        Due.is("over the most there", w.over(2 * 32767 * 32767), 1);
        Due.is("over one more", w.over(2 * 32767 * 32767 + 1), 0);
        Due.is("over the most", w.over(MOST), 0);
        Due.is("over(-1)", w.over(-1), -1);
        Due.is("over the least", w.over(LEAST), -1);
        w = Due.told("size 2;real 0 3;");
        w.beat();
        Due.is("now", w.over(9), 2);
    }

    private static void p28() {
        BlockWave w = Due.told("size 2;bits 8;real 0 50;seed 7;");
        Due.is("exp 0", w.noise(3, 0), 1);
        Due.is("exp 20", w.noise(3, 20), -2);
        Due.is("noise(-2, 0)", w.noise(-2, 0), -1);
        Due.is("noise(0, 21)", w.noise(0, 21), -1);
        Due.is("noise(0, -1)", w.noise(0, -1), -1);
        Due.is("noise of the least", w.noise(LEAST, 0), -1);
        Due.is("noise of the most", w.noise(MOST, 0), 1);
        Due.is("all stays", w.point(0, 0) + w.count(6), 50);
        for (int exp = 0; exp <= 3; exp++) {
            w = Due.told("size 2;bits 8;real 0 50;seed 7;");
            Due.is("by chance(), exp " + exp, w.noise(7, exp), leastAmount(w, 7, exp));
            Due.is("by the seed of the text, exp " + exp, w.noise(-1, exp), w.noise(7, exp));
        }
        // An object for each, as an object is good for 512 calls.
        for (int seed = 0; seed < 40; seed++) {
            w = Due.told("size 2;bits 9;real 0 20;");
            Due.is("noise(" + seed + ", 1)", w.noise(seed, 1), leastAmount(w, seed, 1));
        }
    }

    private static int leastAmount(BlockWave w, int seed, int exp) {
        for (int a = 1; a <= 99; a++) {
            if (w.chance(seed, a, exp) >= 5) {
                return a;
            }
        }
        return -2;
    }

    private static void p29() {
        Due.is("nothing there", new BlockWave().best(), 0);
        // By cut 11585 off; by nearest, order 0, radix 2 as near as can be.
        Due.is("nearest", Due.told(ONE).best(), 1);
        Due.is("whatever is told", Due.told(ONE + "near 0;order 1;radix 4;").best(), 1);
        // 43 stays by order 0; by order 1 it is halved, and 22 times 2 is another.
        Due.is("order 0", Due.told("size 2;bits 8;order 1;real 0 43;").best(), 0);
        // 43 stays by radix 2, order 0, alone.
        Due.is("radix 2", Due.told("size 4;bits 8;radix 4;real 0 43;").best(), 0);
        // 103: by radix 2 twice halved, 25 by cut (100), 26 by nearest (104): 1 off; by radix 4 thrice, 12 (96), 13 (104).
        Due.is("of 103", Due.told("size 4;bits 8;real 0 103;").best(), 1);
        String[] texts = {"size 16;bits 8;real 0 17;real 1 88;less 2 103;", "size 8;bits 8;less 0 19;real 1 20;real 2 70;real 3 116;",
            "size 8;bits 8;real 0 114;less 1 96;real 2 92;real 3 98;", "size 8;bits 8;less 0 26;real 1 112;less 2 90;real 3 92;",
            "size 8;bits 8;less 0 71;less 1 49;less 2 36;real 3 10;", "size 8;bits 8;real 0 11;less 1 55;real 2 41;less 3 83;",
            "size 8;bits 8;less 0 24;real 1 76;less 2 62;real 3 86;", "size 8;bits 8;less 0 64;less 1 48;real 2 109;less 3 18;"};
        for (int way = 0; way < 8; way++) {
            Due.is("each way is the best of some: " + texts[way], bestByTelling(texts[way]), way);
            BlockWave w = Due.told(texts[way]);
            Due.is("best() of " + texts[way], w.best(), way);
            w.beatAll();
            Due.is("best(), done, of " + texts[way], w.best(), way);
        }
    }

    /** Each way told and run, the least of what is worst. */
    private static int bestByTelling(String text) {
        int best = 0;
        long least = Long.MAX_VALUE;
        for (int way = 0; way < 8; way++) {
            String told = "order " + way / 4 + ";radix " + (way / 2 % 2 == 1 ? 4 : 2) + ";near " + way % 2 + ";";
            long worst = done(text + told).worst(0);
            if (worst < least) {
                least = worst;
                best = way;
            }
        }
        return best;
    }

    private static void p30() {
        BlockWave w = Due.told("size 8;");
        Due.is("digit(6, 0)", w.digit(6, 0), 0);
        Due.is("digit(6, 1)", w.digit(6, 1), 1);
        Due.is("digit(6, 2)", w.digit(6, 2), 1);
        Due.is("digit(6, 3)", w.digit(6, 3), -1);
        Due.is("digit(6, -1)", w.digit(6, -1), -1);
        Due.is("digit(8, 0)", w.digit(8, 0), -1);
        Due.is("digit(-1, 0)", w.digit(-1, 0), -1);
        w = Due.told("size 8;radix 4;");
        Due.is("4 last: digit(6, 0)", w.digit(6, 0), 2);
        Due.is("4 last: digit(6, 1)", w.digit(6, 1), 1);
        Due.is("4 last: digit(6, 2)", w.digit(6, 2), -1);
        w = Due.told("size 8;radix 4;order 1;");
        Due.is("2 last: digit(6, 0)", w.digit(6, 0), 0);
        Due.is("2 last: digit(6, 1)", w.digit(6, 1), 3);
        w = Due.told("size 32;radix 4;");
        Due.is("32: digit(27, 0)", w.digit(27, 0), 3);
        Due.is("32: digit(27, 1)", w.digit(27, 1), 2);
        Due.is("32: digit(27, 2)", w.digit(27, 2), 1);
    }

    private static void p31() {
        BlockWave w = Due.told("size 4;real 0 1;real 1 2;real 2 4;real 3 8;");
        Due.is("not done", w.mirror(), -2);
        w.beatAll();
        Due.is("of a real wave", w.mirror(), 0);
        w.turnBack();
        Due.is("it goes back", w.mirror(), -2);
        // IM alone: notes 0 is 3 beside, with itself 6.
        Due.is("beside", done("size 4;side 0 3;").mirror(), 6);
        // IM 5 at place 1: note 1 is 5, note 3 is -5.
        Due.is("apart", done("size 4;down 1 5;").mirror(), 10);
    }

    private static void p32() {
        Due.is("nothing there", new BlockWave().loudest(), 0);
        BlockWave w = Due.told("size 4;bits 8;real 0 10;real 2 127;side 3 10;");
        Due.is("loudest()", w.loudest(), 2);
        w.set(3, 0, 127);
        Due.is("two alike: no one alone", w.loudest(), 0);
        w.set(2, 0, 0);
        Due.is("the other", w.loudest(), 3);
        w.beatAll();
        Due.is("as they were", w.loudest(), 3);
    }

    private static void p33() {
        BlockWave w = Due.told("size 4;real 0 1;real 1 2;real 2 4;real 3 8;side 0 99;");
        // 2 less t: 1, 4, 11, 26.
        Due.is("swing(0, 0)", w.swing(0, 0), 26);
        Due.is("swing(0, 1)", w.swing(0, 1), 11);
        // less 2: 1, 0, 3, 2.
        Due.is("swing(2, 0)", w.swing(2, 0), 2);
        Due.is("swing(2, 1)", w.swing(2, 1), 3);
        Due.is("swing(4, 0)", w.swing(4, 0), Long.MIN_VALUE);
        Due.is("swing(-1, 0)", w.swing(-1, 0), Long.MIN_VALUE);
        Due.is("swing(0, 2)", w.swing(0, 2), Long.MIN_VALUE);
        Due.is("swing(0, -1)", w.swing(0, -1), Long.MIN_VALUE);
        // 1.414 times the last less the one ahead: cut 9, 12, 7, -3, -12, -14, -8, 2; nearest 9, 13, 9, 0, -9, -13, -9, 0.
        w = Due.told("size 8;real 0 9;");
        Due.is("rounded to the nearest", w.swing(1, 0), 0);
        Due.is("rounded to the nearest: t", w.swing(1, 1), -9);
        w = Due.told("size 8;near 0;real 0 9;");
        Due.is("cut", w.swing(1, 0), 2);
        Due.is("cut: t", w.swing(1, 1), -8);
        w.beatAll();
        Due.is("as they were", w.swing(1, 0), 2);
        w = Due.told("size 32;");
        for (int i = 0; i < 32; i++) {
            w.set(i, 32767, 0);
        }
        Due.is("swing(0, 0) of 32", w.swing(0, 0), 32767L * 32 * 33 / 2);
    }

    private static void p34() {
        BlockWave w = Due.told("size 8;bits 8;real 0 1;real 2 127;down 3 63;side 5 64;less 6 31;");
        Due.is("room(0, 2)", w.room(0, 2), 6);
        Due.is("room(1, 2)", w.room(1, 2), 0);
        Due.is("room(2, 2)", w.room(2, 2), 0);
        Due.is("room(3, 2)", w.room(3, 2), 2);
        Due.is("room(4, 2)", w.room(4, 2), -1);
        Due.is("room(1, 4)", w.room(1, 4), 0);
        Due.is("room(0, 8)", w.room(0, 8), 0);
        Due.is("room(1, 8)", w.room(1, 8), -1);
        Due.is("room(0, 16)", w.room(0, 16), -1);
        Due.is("room(0, 32)", w.room(0, 32), -1);
        Due.is("room(0, 1)", w.room(0, 1), -1);
        Due.is("room(0, 3)", w.room(0, 3), -1);
        Due.is("room(0, 6)", w.room(0, 6), -1);
        Due.is("room(0, 0)", w.room(0, 0), -1);
        Due.is("room(0, -2)", w.room(0, -2), -1);
        Due.is("room(-1, 2)", w.room(-1, 2), -1);
        Due.is("a block far out", w.room(1 << 30, 4), -1);
        Due.is("a block below", w.room(LEAST, 2), -1);
        w.set(2, 0, 0);
        w.set(3, 0, 0);
        Due.is("of 0", w.room(1, 2), 15);
        Due.is("of 32", Due.told("size 32;").room(0, 32), 15);
        Due.is("of 32, the last", Due.told("size 32;less 31 16383;").room(15, 2), 1);
    }

    private static void p35p36p37() {
        BlockWave w = Due.told("size 4;real 0 2;real 1 3;less 3 5;side 1 7;down 2 11;");
        // RE 2, 3, 0, -5; IM 0, 7, -11, 0.
        int[] fold = {3 * 0 + -5 * 7, 2 * 7 + -5 * -11, 2 * -11 + 3 * 7, 3 * -11};
        int[] crossed = {3 * 7, 2 * 7 + 3 * -11, 2 * -11 + -5 * 7, -5 * -11};
        for (int k = 0; k < 4; k++) {
            Due.is("foldWhole(" + k + ")", w.foldWhole(k), fold[k]);
            Due.is("crossed(" + k + ")", w.crossed(k), crossed[k]);
        }
        Due.is("lag()", w.lag(), 3);
        Due.is("foldWhole(4)", w.foldWhole(4), Long.MIN_VALUE);
        Due.is("foldWhole(-1)", w.foldWhole(-1), Long.MIN_VALUE);
        Due.is("crossed(4)", w.crossed(4), Long.MIN_VALUE);
        Due.is("crossed(-1)", w.crossed(-1), Long.MIN_VALUE);
        w.beatAll();
        Due.is("foldWhole(1) as they were", w.foldWhole(1), fold[1]);
        Due.is("crossed(1) as they were", w.crossed(1), crossed[1]);
        Due.is("lag() of nothing", new BlockWave().lag(), 0);
        w = Due.told("size 4;real 0 1;side 1 5;side 3 5;");
        Due.is("lag(), the first of two", w.lag(), 1);
        w = Due.told("size 32;");
        for (int i = 0; i < 32; i++) {
            w.set(i, 32767, 32767);
        }
        Due.is("foldWhole() beyond an int", w.foldWhole(3), 32L * 32767 * 32767);
        Due.is("crossed() beyond an int", w.crossed(3), 32L * 32767 * 32767);
        Due.is("fold() of it", w.fold(3), 32L * 32767 * 32767 % 97);
    }

    private static void p38() {
        BlockWave w = Due.told("size 2;real 0 32767;");
        // Till 5 times it is at most twice LIMIT.
        int[] due = {10, 9, 8, 7, 6, 5, 4, 3, 2};
        for (int bits = 8; bits <= 16; bits++) {
            Due.is("sweep(" + bits + ")", w.sweep(bits), due[bits - 8]);
        }
        Due.is("sweep(7)", w.sweep(7), -1);
        Due.is("sweep(17)", w.sweep(17), -1);
        w = Due.told("size 2;bits 8;order 1;real 0 43;");
        Due.is("all else as told", w.sweep(8), 1);
        w.beat();
        Due.is("as they were", w.sweep(9), 0);
        Due.is("bits stay", w.count(1), 8);
    }

    private static void p39() {
        BlockWave w = Due.told("size 2;bits 8;real 0 14;down 1 14;");
        Due.yes("louder(9)", w.louder(9));
        Due.points("9 times", w, 126, 0, 0, -126);
        Due.is("as it was, too", w.point(1, 3), -126);
        Due.no("louder(2)", w.louder(2));
        Due.is("one to undo", w.count(12), 1);
        w.set(0, 0, 0);
        w.set(1, 0, -64);
        Due.no("128 below 0", w.louder(2));
        w.set(1, 63, -63);
        Due.yes("126", w.louder(2));
        w.set(1, 1, 1);
        Due.no("louder(1)", w.louder(1));
        Due.no("louder(10)", w.louder(10));
        Due.no("louder(-2)", w.louder(-2));
        Due.no("louder of the least", w.louder(LEAST));
        w.beat();
        Due.no("a stage is done", w.louder(2));
        w.turnBack();
        Due.no("it went back", w.louder(2));
    }

    private static void p40() {
        BlockWave w = Due.told("size 4;real 0 1;real 1 2;side 2 3;real 3 4;");
        Due.yes("turnRound()", w.turnRound());
        Due.points("round", w, 1, 0, 4, 0, 0, 3, 2, 0);
        Due.is("as it was, too", w.point(1, 2), 4);
        Due.is("one to undo", w.count(12), 1);
        w.beat();
        Due.no("a stage is done", w.turnRound());
        w.beat();
        w.turnBack();
        Due.no("it went back", w.turnRound());
    }

    private static void p41() {
        // First wave 1 at 1, second wave 3 at 0.
        BlockWave w = Due.told("size 4;real 1 1;side 0 3;");
        Due.is("not done", w.pair(0, 0, 0), LEAST);
        w.beatAll();
        int[][] first = {{2, 0}, {0, -2}, {-2, 0}, {0, 2}};
        for (int k = 0; k < 4; k++) {
            Due.is("pair(" + k + ", 0, 0)", w.pair(k, 0, 0), first[k][0]);
            Due.is("pair(" + k + ", 0, 1)", w.pair(k, 0, 1), first[k][1]);
            Due.is("pair(" + k + ", 1, 0)", w.pair(k, 1, 0), 6);
            Due.is("pair(" + k + ", 1, 1)", w.pair(k, 1, 1), 0);
        }
        Due.is("pair(4, 0, 0)", w.pair(4, 0, 0), LEAST);
        Due.is("pair(-1, 0, 0)", w.pair(-1, 0, 0), LEAST);
        Due.is("pair(0, 2, 0)", w.pair(0, 2, 0), LEAST);
        Due.is("pair(0, -1, 0)", w.pair(0, -1, 0), LEAST);
        Due.is("pair(0, 0, 2)", w.pair(0, 0, 2), LEAST);
        Due.is("pair(0, 0, -1)", w.pair(0, 0, -1), LEAST);
        BlockWave second = done("size 4;side 1 1;");
        Due.is("of the second: pair(1, 1, 1)", second.pair(1, 1, 1), -2);
        Due.is("of the second: pair(3, 1, 1)", second.pair(3, 1, 1), 2);
        w.turnBack();
        Due.is("it goes back", w.pair(0, 0, 0), LEAST);
    }

    private static void p42p43() {
        BlockWave w = Due.told("size 4;real 0 2;real 1 3;less 3 5;side 0 9;");
        int[] due = {4 + 9 + 25, 6 - 10, -15 - 15, 6 - 10};
        for (int k = 0; k < 4; k++) {
            Due.is("like(" + k + ")", w.like(k), due[k]);
        }
        Due.is("like(4)", w.like(4), Long.MIN_VALUE);
        Due.is("like(-1)", w.like(-1), Long.MIN_VALUE);
        Due.is("period()", w.period(), 1);
        w = Due.told("size 8;real 0 5;real 4 5;");
        Due.is("period() 4", w.period(), 4);
        w.beatAll();
        Due.is("as they were", w.period(), 4);
        Due.is("as they were: like(4)", w.like(4), 50);
        Due.is("period() of two", Due.told("size 2;real 0 1;less 1 1;").period(), 1);
        Due.is("period() of nothing", new BlockWave().period(), 1);
    }

    private static void p44() {
        BlockWave w = Due.told("size 2;real 0 100;less 1 30;");
        Due.is("bin(0)", w.bin(0), 70);
        Due.is("bin(1)", w.bin(1), 130 - 97);
        Due.is("bin(2)", w.bin(2), -1);
        Due.is("bin(-1)", w.bin(-1), -1);
        int[] sizes = {2, 4, 8, 16, 32};
        int[] roots = {96, 22, 64, 8, 28};
        for (int i = 0; i < 5; i++) {
            w = Due.told("size " + sizes[i] + ";real 1 1;side 0 50;");
            int power = 1;
            for (int k = 0; k < sizes[i]; k++) {
                Due.is("size " + sizes[i] + ": bin(" + k + ")", w.bin(k), power);
                power = power * roots[i] % 97;
            }
            Due.is("the round ends", power, 1);
        }
        w = Due.told("size 4;less 3 1;");
        w.beatAll();
        // 22 to the 3 is 75: less it is 22.
        Due.is("as they were, below 0", w.bin(1), 22);
    }

    private static void p45() {
        BlockWave w = Due.told("size 4;real 0 100;real 1 3;less 3 5;side 1 7;down 2 11;");
        int[] whole = {-35, 700 + 55, -1100 + 21, -33};
        for (int k = 0; k < 4; k++) {
            Due.is("fold(" + k + ")", w.fold(k), Math.floorMod(whole[k], 97));
        }
        Due.is("fold(4)", w.fold(4), -1);
        Due.is("fold(-1)", w.fold(-1), -1);
    }

    private static void p46() {
        for (int size = 2; size <= 32; size *= 2) {
            BlockWave w = Due.told("size " + size + ";");
            int k = size / 2 + 1 < size ? size / 2 + 1 : 1;
            for (int place = 0; place < size; place++) {
                w.set(place, w.unfold(k, 41, place), 0);
            }
            for (int other = 0; other < size; other++) {
                Due.is("size " + size + ": bin(" + other + ") of what was unfolded", w.bin(other), other == k ? 41 : 0);
            }
            Due.is("of 0", w.unfold(0, 0, 0), 0);
            Due.is("k too much", w.unfold(size, 0, 0), -1);
            Due.is("k below", w.unfold(-1, 0, 0), -1);
            Due.is("bin too much", w.unfold(0, 97, 0), -1);
            Due.is("bin below", w.unfold(0, -1, 0), -1);
            Due.is("place too much", w.unfold(0, 0, size), -1);
            Due.is("place below", w.unfold(0, 0, -1), -1);
        }
        Due.is("96 of 2", Due.told("size 2;").unfold(1, 96, 1), 49);
    }

    private static void p47p48() {
        BlockWave w = Due.told("size 2;");
        Due.is("note(2, 0, true)", w.note(2, 0, true), -1);
        Due.is("note(-1, 0, true)", w.note(-1, 0, true), -1);
        Due.is("note(0, 97, true)", w.note(0, 97, true), -1);
        Due.is("note(0, -1, true)", w.note(0, -1, true), -1);
        Due.is("strike(0), none there", w.strike(0), -1);
        Due.is("note(1, 96, false)", w.note(1, 96, false), 0);
        Due.is("strike(0)", w.strike(0), 1);
        Due.is("strike(1)", w.strike(1), 2);
        Due.is("strike(-1)", w.strike(-1), -1);
        Due.is("strike(3)", w.strike(3), -1);
        for (int i = 3; i < 24; i++) {
            Due.is("note " + i, w.note(0, 0, true), i);
        }
        Due.is("note, 24 in all", w.note(0, 0, true), -1);
        Due.is("strike, 24 in all", w.strike(0), -1);
        Due.is("24", w.count(10), 24);
        w.undo();
        w.keep();
        w.back();
        Due.is("notes are not in the image", w.count(10), 24);
    }

    private static void p49() {
        BlockWave w = Due.told("size 2;");
        Due.yes("known(0)", w.known(0));
        Due.yes("known(-1)", w.known(-1));
        Due.no("known(1)", w.known(1));
        Due.no("known(-2)", w.known(-2));
        w.note(0, 3, true);
        Due.is("by all, also those to come", w.count(11), 1);
        Due.yes("known(1)", w.known(1));
        w.note(0, 5, true);
        Due.is("by 1", w.count(11), 1);
        Due.is("values by 1", w.values(0), 0xFFF8);
        Due.no("known(3)", w.known(3));
        Due.is("by 1 yet", w.count(11), 1);
        w.known(2);
        Due.is("values by 2", w.values(0), 0xFFE0);
        w.known(0);
        Due.is("values by 0", w.values(0), 0xFFFF);
        w.known(-1);
        Due.is("by all", w.count(11), 2);
        Due.is("values by all", w.values(0), 0xFFE0);
    }

    private static void p50() {
        BlockWave w = Due.told("size 2;real 0 90;real 1 90;");
        Due.is("at first", w.values(0), 0xFFFF);
        w.note(0, 95, true);
        // 90 and 5, 6 is 95, 96; 7 is 0 again.
        Due.is("at least", w.values(0), 0x0060);
        w.note(1, 8, true);
        // v less 90: v and 7: 12, 13.
        Due.is("and another", w.values(0), 0x0060);
        w.note(1, 13, false);
        Due.is("or less", w.values(0), 0x0020);
        w.note(0, 0, false);
        Due.is("never less than 0", w.values(0), 0);
        w.strike(3);
        Due.is("struck", w.values(0), 0x0020);
        w.strike(4);
        Due.is("the strike struck", w.values(0), 0);
        w.strike(5);
        Due.is("struck thrice", w.values(0), 0x0020);
        w.known(6);
        Due.is("by 6", w.values(0), 0);
        w.known(5);
        Due.is("by 5", w.values(0), 0x0020);
        w.known(4);
        Due.is("by 4", w.values(0), 0);
        w.known(3);
        Due.is("by 3", w.values(0), 0x0020);
        Due.is("values(2)", w.values(2), -1);
        Due.is("values(-1)", w.values(-1), -1);
        w = Due.told("size 4;real 0 5;less 1 5;");
        w.note(0, 5, true);
        Due.is("before", w.values(2), 0xFFE0);
        w.set(1, 0, 0);
        Due.is("as they were, when set", w.values(2), 0xFFFF);
        w.set(0, 4, 0);
        w.beatAll();
        Due.is("as they were, when done", w.values(2), 0xFFFE);
    }

    private static void p51() {
        BlockWave w = Due.told("size 2;");
        Due.is("ask(0, 0)", w.ask(0, 0), 0);
        Due.is("ask(0, 1)", w.ask(0, 1), 8);
        Due.is("ask(0, 2)", w.ask(0, 2), 8);
        w.note(0, 3, false);
        // 0, 1, 2: 1 at least leaves 2 or 1.
        Due.is("of three: number", w.ask(0, 1), 1);
        Due.is("of three: left", w.ask(0, 2), 2);
        w.note(0, 2, true);
        Due.is("of one: bin", w.ask(0, 0), 0);
        Due.is("of one: number", w.ask(0, 1), 1);
        Due.is("of one: left", w.ask(0, 2), 1);
        w.note(0, 5, true);
        Due.is("of none: bin", w.ask(0, 0), 0);
        Due.is("of none: number", w.ask(0, 1), 1);
        Due.is("of none: left", w.ask(0, 2), 0);
        Due.is("ask(2, 0)", w.ask(2, 0), -1);
        Due.is("ask(-1, 0)", w.ask(-1, 0), -1);
        Due.is("ask(0, 3)", w.ask(0, 3), -1);
        Due.is("ask(0, -1)", w.ask(0, -1), -1);
        // Only 15 and 0 at place 1, of which bin 0 (1 at 0) is 16 and 1.
        w = Due.told("size 2;real 0 1;");
        w.note(0, 16, true);
        w.note(0, 0, true);
        Due.is("of 15 alone", w.values(1), 0x8000);
        // With 82 at place 0 bin 0 is 82 .. 96, 0: the last one is below, the half begins at 89; bin 1 no better.
        w = Due.told("size 2;real 0 82;");
        Due.is("round the end: bin", w.ask(1, 0), 0);
        Due.is("round the end: number", w.ask(1, 1), 89);
        Due.is("round the end: left", w.ask(1, 2), 8);
    }

    private static void p52() {
        BlockWave w = Due.told("size 2;bits 8;real 0 50;seed 7;");
        Due.is("exp 0", w.chance(0, 1, 0), 10);
        Due.is("exp 20", w.chance(0, 99, 20), 0);
        Due.is("chance(-2, 1, 0)", w.chance(-2, 1, 0), -1);
        Due.is("chance(0, 0, 0)", w.chance(0, 0, 0), -1);
        Due.is("chance(0, 100, 0)", w.chance(0, 100, 0), -1);
        Due.is("chance(0, 1, -1)", w.chance(0, 1, -1), -1);
        Due.is("chance(0, 1, 21)", w.chance(0, 1, 21), -1);
        Due.is("the seed of the text", w.chance(-1, 1, 1), w.chance(7, 1, 1));
        // Halved once, if 50 gets 1 more: four numbers a time, the first of which comes to it.
        for (int seed : new int[] {0, 1, 2, 7, 12345, MOST}) {
            Due.is("chance(" + seed + ", 1, 1)", w.chance(seed, 1, 1), timesOneMore(seed));
        }
        Due.tell(w, "size 2;bits 8;real 0 50;");
        Due.is("the seed of a text that tells none", w.chance(-1, 1, 1), timesOneMore(0));
        Due.yes("which is not as by 7", timesOneMore(0) != timesOneMore(7));
        // LIMIT at most: 127 stays 127, which is halved twice, not thrice.
        w = Due.told("size 2;bits 8;real 0 127;less 1 127;");
        Due.is("not above LIMIT", w.chance(5, 99, 3), 0);
        Due.is("all stays", w.point(0, 0) + w.count(6), 127);
        w.beatAll();
        Due.is("from the points as they were", w.chance(5, 1, 2), 10);
    }

    private static int timesOneMore(int seed) {
        long last = seed;
        int times = 0;
        for (int number = 0; number < 40; number++) {
            last = (last * 1103515245L + 12345L) % (1L << 31);
            if (number % 4 == 0 && last / 65536 % 3 == 2) {
                times++;
            }
        }
        return times;
    }

    private static void p53() {
        BlockWave w = Due.told("size 4;bits 8;real 0 43;");
        Due.is("by radix 2, order 0", w.tried(1, 0), 0);
        Due.is("by the other order", w.tried(4, 0), 1);
        // 43 by radix 4: 22, 11.
        Due.is("by the other radix", w.tried(3, 0), 2);
        Due.is("without 0", w.tried(2, 0), 0);
        w = Due.told("size 4;bits 8;radix 4;order 1;real 0 43;side 3 127;");
        Due.is("without 3", w.tried(2, 3), 2);
        Due.is("without 0", w.tried(2, 0), 3);
        Due.is("without 1", w.tried(2, 1), 3);
        // 43 below 0 by cut: -22, -11; 85 is 43, 22, 11 by nearest, 42, 21 by cut.
        w = Due.told("size 4;bits 8;radix 4;real 0 85;");
        Due.is("by cut", w.tried(0, 0), 2);
        Due.is("by nearest", w.tried(1, 0), 3);
        w.beatAll();
        Due.is("as they were", w.tried(0, 0), 2);
        Due.is("tried(5, 0)", w.tried(5, 0), -1);
        Due.is("tried(-1, 0)", w.tried(-1, 0), -1);
        for (int what = 0; what <= 4; what++) {
            Due.is("tried(" + what + ", -1)", w.tried(what, -1), -1);
            Due.is("tried(" + what + ", 4)", w.tried(what, 4), -1);
            if (what != 2) {
                Due.is("tried(" + what + ", 1)", w.tried(what, 1), -1);
            }
        }
    }

    private static void p54() {
        BlockWave w = Due.told("size 4;bits 8;real 0 12;side 1 6;");
        Due.is("nothing to undo", w.undo(), -1);
        w.set(0, 10, 1);
        w.taper();
        w.shift(1);
        w.louder(2);
        w.turnRound();
        w.beat();
        w.beat();
        w.turnBack();
        w.beat();
        Due.is("nine", w.count(12), 9);
        Due.is("the stage back", w.undo(), 8);
        Due.is("no stage back done", w.count(6) * 10 + w.count(7), 1);
        Due.is("turning back", w.undo(), 7);
        Due.is("done forward", w.count(6) * 10 + w.count(7), 20);
        Due.is("a stage", w.undo(), 6);
        Due.is("a stage", w.undo(), 5);
        Due.is("none done", w.count(6), 0);
        // 10, 1 tapered is 0; 6 beside at 1 tapered is 3; shifted to 2, twice is 6, turned round at 2.
        Due.points("turned round", w, 0, 0, 0, 0, 0, 6, 0, 0);
        w.undo();
        w.undo();
        Due.points("shifted", w, 0, 0, 0, 0, 0, 3, 0, 0);
        w.undo();
        Due.points("tapered", w, 0, 0, 0, 3, 0, 0, 0, 0);
        w.undo();
        Due.points("set", w, 10, 1, 0, 6, 0, 0, 0, 0);
        Due.is("as it was", w.point(0, 2), 10);
        Due.is("the last one", w.undo(), 0);
        Due.points("told", w, 12, 0, 0, 6, 0, 0, 0, 0);
        Due.is("as it was told", w.point(0, 2), 12);
        Due.is("none", w.undo(), -1);
        // A stage undone takes EXP and what was halved along.
        w = Due.told("size 2;bits 8;real 0 127;");
        w.beat();
        w.undo();
        Due.is("exp", w.count(8), 0);
        Due.is("halved", w.stage(0, 1), -2);
        // 20 at most, the latest ones.
        w = new BlockWave();
        for (int i = 1; i <= 45; i++) {
            w.set(0, i, 0);
            Due.is("to undo", w.count(12), Math.min(20, i));
        }
        for (int i = 19; i >= 0; i--) {
            Due.is("undo()", w.undo(), i);
            Due.is("what it was", w.point(0, 0), 25 + i);
        }
        Due.is("no more", w.undo(), -1);
        Due.is("it stays", w.point(0, 0), 25);
        w.set(0, 1, 1);
        Due.is("anew", w.undo(), 0);
    }

    private static void p55p56() {
        BlockWave w = Due.told("size 4;bits 8;real 0 127;real 1 127;real 2 127;real 3 127;");
        Due.is("back(), none", w.back(), -1);
        w.beat();
        Due.is("keep()", w.keep(), 1);
        Due.is("keep() leaves what can be undone", w.count(12), 1);
        w.beat();
        w.turnBack();
        w.beat();
        Due.is("back()", w.back(), 1);
        Due.is("not back", w.count(7), 0);
        Due.is("stages", w.count(6), 1);
        Due.is("exp", w.count(8), 2);
        Due.is("halved", w.stage(0, 1), 2);
        Due.is("halved, the second", w.stage(1, 1), -2);
        Due.points("points", w, 64, 0, 0, 0, 64, 0, 0, 0);
        Due.is("nothing to undo", w.undo(), -1);
        w.beat();
        Due.is("the image stays", w.back(), 1);
        w.beat();
        w.turnBack();
        w.beat();
        Due.is("keep() back", w.keep(), 1);
        w.beatAll();
        Due.is("back() to back", w.back(), 1);
        Due.is("goes back", w.count(7), 1);
        // Points as they were are in it; notes, known, tape and fault are not.
        w = Due.told("size 4;real 0 1;");
        w.keep();
        w.set(0, 2, 3);
        w.note(0, 1, true);
        w.known(0);
        w.feed(0x3F3F3F3F, 0, 0, 0, 0);
        w.text(1);
        w.feed(0x3F3F3F3F, 0, 0, 0, 0);
        Due.is("back()", w.back(), 0);
        Due.is("RE as it was", w.point(0, 2), 1);
        Due.is("IM", w.point(0, 1), 0);
        Due.is("notes", w.count(10), 1);
        Due.is("known", w.count(11), 0);
        Due.is("the fault", w.fault(0), 1);
        Due.is("the tape", w.feed(0, 0, 0, 0, 0), 40);
    }

    private static void p57() {
        BlockWave w = Due.told("size 16;bits 10;radix 4;order 1;near 0;seed 3;real 0 511;");
        w.note(0, 1, true);
        w.note(0, 1, true);
        w.strike(0);
        w.known(1);
        w.beat();
        w.beat();
        w.turnBack();
        w.beat();
        // 511 is 63 by the first (12 times it is 756), 63 yet by the second; back 63 yet, then 4 times 63 is 252.
        int[] due = {16, 10, 4, 1, 0, 2, 1, 1, 3, 511, 3, 1, 4};
        for (int what = 0; what < due.length; what++) {
            Due.is("count(" + what + ")", w.count(what), due[what]);
        }
        Due.is("count(13)", w.count(13), LEAST);
        Due.is("count(-1)", w.count(-1), LEAST);
        w.known(-1);
        Due.is("by all", w.count(11), 3);
        w = Due.told("size 32;");
        w.beatAll();
        w.turnBack();
        w.beatAll();
        Due.is("exp below 0", w.count(8), -5);
        Due.is("5 stages done", w.count(6), 5);
    }
}
