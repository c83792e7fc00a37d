import java.util.ArrayList;
import java.util.List;

/** Edges of promises 54 to 57: undone, images, counts. */
final class EdgesOfPast {
    private static final int NO_COUNT = Integer.MIN_VALUE;
    /** Halved twice by the first stage forward, once by the second; once by the first one back, then no more. */
    private static final String LOUD = "size 4;bits 8;real 0 127;real 1 127;real 2 127;real 3 127;";

    private EdgesOfPast() {
    }

    // ---- 54: undo

    @Edge("The latest is undone: how many are left; NONE: none.")
    static void promise54NothingToUndo() {
        BlockWave w = Due.told("size 4;real 0 3;side 1 2;");
        Due.stays("undo() of none", w, () -> {
            Due.is("undo()", w.undo(), -1);
            Due.is("undo() again", w.undo(), -1);
        });
        w.set(0, 1, 1);
        Due.is("one undone", w.undo(), 0);
        Due.is("none", w.undo(), -1);
        Due.is("a new object", new BlockWave().undo(), -1);
    }

    @Edge("Setting, tapering, shifting, making louder, turning round, a STAGE, turning back can be undone, the latest first")
    static void promise54EachIsUndoneTheLatestFirst() {
        BlockWave w = Due.told("size 4;bits 8;real 0 13;side 1 13;less 2 13;real 3 13;");
        List<String> seen = new ArrayList<>();
        int done = 0;
        // Loud enough to be halved, forward otherwise than back.
        Runnable[] calls = {() -> w.set(2, 12, -12), w::taper, () -> w.shift(1), () -> w.louder(9), w::turnRound, w::beat, w::beat,
            w::turnBack, w::beat, w::beat};
        for (Runnable call : calls) {
            seen.add(state(w));
            call.run();
            done++;
            Due.is("to undo", w.count(12), done);
        }
        for (int left = done - 1; left >= 0; left--) {
            Due.is("undo()", w.undo(), left);
            String now = state(w);
            Due.yes("as it was ahead of it: " + now + " / " + seen.get(left), now.equals(seen.get(left)));
        }
        Due.is("no more", w.undo(), -1);
    }

    /** Without what can be undone, which is one less at the end. */
    private static String state(BlockWave w) {
        StringBuilder all = new StringBuilder();
        for (int place = 0; place < 4; place++) {
            for (int what = 0; what < 4; what++) {
                all.append(w.point(place, what)).append(' ');
            }
        }
        return all.append(w.stage(0, 1)).append(' ').append(w.stage(1, 1)).append(' ').append(w.count(6)).append(' ')
                .append(w.count(7)).append(' ').append(w.count(8)).toString();
    }

    @Edge("can be undone, the latest first (20 at most).")
    static void promise54TwentyAtMost() {
        BlockWave w = Due.told("size 2;");
        for (int i = 1; i <= 21; i++) {
            w.set(0, i, -i);
            Due.is("to undo", w.count(12), Math.min(20, i));
        }
        for (int left = 19; left >= 0; left--) {
            Due.is("undo()", w.undo(), left);
            Due.is("RE", w.point(0, 0), left + 1);
            Due.is("IM as it was", w.point(0, 3), -left - 1);
        }
        Due.is("the first can't be undone", w.undo(), -1);
        Due.is("it stays", w.point(0, 0), 1);
        Due.is("one again", w.set(0, 7, 7) ? w.undo() : 9, 0);
        Due.is("it was", w.point(0, 0), 1);
    }

    /** 32 points of 4, which the fifth stage alone halves; back the first one alone does. */
    private static BlockWave fifthHalves() {
        BlockWave w = Due.told("size 32;bits 8;");
        for (int place = 0; place < 32; place++) {
            w.set(place, 4, 0);
        }
        return w;
    }

    @Edge("a STAGE, turning back can be undone")
    static void promise54TheFifthStageAndTheLastPoint() {
        BlockWave w = fifthHalves();
        w.set(31, 5, -6);
        w.undo();
        for (int what = 0; what < 4; what++) {
            Due.is("the last point " + what, w.point(31, what), what % 2 == 0 ? 4 : 0);
        }
        w.beatAll();
        w.turnBack();
        for (int stage = 0; stage < 5; stage++) {
            w.beat();
        }
        Due.is("back, the fifth", w.stage(4, 1), 0);
        for (int left = 5; left >= 0; left--) {
            Due.is("undo()", w.undo(), left);
        }
        Due.is("forward, the first", w.stage(0, 1), 0);
        Due.is("forward, the fifth", w.stage(4, 1), 1);
        Due.is("EXP", w.count(8), 1);
    }

    @Edge("(20 at most)")
    static void promise54TwentyOfAllKinds() {
        BlockWave w = Due.told("size 4;real 0 1;");
        for (int i = 0; i < 60; i++) {
            w.shift(1);
        }
        w.beat();
        w.beat();
        w.turnBack();
        w.beat();
        w.beat();
        Due.is("20", w.count(12), 20);
        for (int left = 19; left >= 0; left--) {
            Due.is("undo()", w.undo(), left);
        }
        Due.is("no more", w.undo(), -1);
        // 15 of 60 shifts were undone: the one point is at 45, modulo 4.
        Due.is("what stays", w.point(1, 0), 1);
    }

    @Edge("how many are left; NONE: none.")
    static void promise54WhatIsRefusedIsNotUndone() {
        BlockWave w = Due.told("size 2;real 0 1;");
        w.set(0, 2, 2);
        w.set(2, 1, 1);
        w.shift(0);
        w.louder(1);
        w.turnBack();
        w.note(0, 1, true);
        w.strike(0);
        w.known(1);
        w.keep();
        w.feed(0, 0, 0, 0, 0);
        w.text(21);
        w.text(20);
        Due.is("one alone", w.count(12), 1);
        w.beat();
        w.beat();
        w.set(0, 1, 1);
        w.taper();
        w.shift(1);
        w.louder(2);
        w.turnRound();
        Due.is("two alone", w.count(12), 2);
        Due.is("the stage", w.undo(), 1);
        Due.is("setting", w.undo(), 0);
        Due.is("as told", w.point(0, 0), 1);
        Due.is("notes stay", w.count(10), 2);
        Due.is("known stays", w.count(11), 1);
    }

    // ---- 55, 56: images

    @Edge("An IMAGE is kept (in place of one ahead): how many STAGES are done (forward or back).")
    static void promise55InPlaceOfOneAhead() {
        BlockWave w = Due.told(LOUD);
        Due.is("no stage", w.keep(), 0);
        w.beat();
        Due.is("one stage", w.keep(), 1);
        w.beat();
        Due.is("back to the latest", w.back(), 1);
        Due.is("with its EXP", w.count(8), 2);
        w.beat();
        Due.is("all stages", w.keep(), 2);
        w.turnBack();
        Due.is("no stage back", w.keep(), 0);
        w.beat();
        Due.is("one stage back", w.keep(), 1);
        w.beat();
        Due.is("all stages back", w.keep(), 2);
        Due.is("back to the latest", w.back(), 2);
        Due.is("which went back", w.count(7), 1);
        Due.is("with its EXP", w.count(8), 2);
    }

    @Edge("An IMAGE is kept (in place of one ahead)")
    static void promise55KeepingChangesNothing() {
        BlockWave w = Due.told(LOUD);
        w.set(0, 1, 1);
        w.beat();
        Due.stays("keep()", w, () -> {
            Due.is("keep()", w.keep(), 1);
            Due.is("keep() again", w.keep(), 1);
        });
        Due.is("two to undo", w.undo(), 1);
        Due.is("an image is not undone", w.back(), 1);
    }

    @Edge("All (but NOTES) is as in the IMAGE (nothing to undo then): how many STAGES are done; NONE: there is none.")
    static void promise56NothingToUndoThen() {
        BlockWave w = Due.told(LOUD);
        w.set(3, 100, -100);
        w.keep();
        String kept = state(w);
        w.set(0, 9, 9);
        w.beat();
        w.beat();
        w.turnBack();
        w.beat();
        Due.is("back()", w.back(), 0);
        Due.yes("all is as in it", state(w).equals(kept));
        Due.is("nothing to undo", w.count(12), 0);
        Due.is("undo()", w.undo(), -1);
        Due.yes("no stage is done", w.set(0, 1, 1));
        Due.is("back() at once", w.back(), 0);
        Due.is("nothing to undo again", w.undo(), -1);
    }

    @Edge("All (but NOTES) is as in the IMAGE")
    static void promise56TheFifthStageAndTheLastPoint() {
        BlockWave w = fifthHalves();
        w.set(31, 4, -4);
        w.keep();
        w.set(31, 5, -6);
        Due.is("back()", w.back(), 0);
        for (int what = 0; what < 4; what++) {
            Due.is("the last point " + what, w.point(31, what), what % 2 == 0 ? 4 : -4);
        }
        w = fifthHalves();
        w.beatAll();
        Due.is("keep()", w.keep(), 5);
        w.turnBack();
        w.beatAll();
        Due.is("back, the fifth", w.stage(4, 1), 0);
        Due.is("back, the first", w.stage(0, 1), 1);
        Due.is("back()", w.back(), 5);
        Due.is("forward, the fifth", w.stage(4, 1), 1);
        Due.is("forward, the first", w.stage(0, 1), 0);
        Due.is("EXP", w.count(8), 1);
        Due.yes("it can go back again", w.turnBack());
    }

    @Edge("NONE: there is none.")
    static void promise56ThereIsNone() {
        BlockWave w = Due.told(LOUD);
        w.set(0, 1, 1);
        w.beat();
        Due.stays("back() to none", w, () -> Due.is("back()", w.back(), -1));
        Due.is("what can be undone stays", w.undo(), 1);
        w.keep();
        Due.tell(w, LOUD);
        Due.is("none behind a new text", w.back(), -1);
        Due.is("a new object", new BlockWave().back(), -1);
    }

    @Edge("An IMAGE keeps all but NOTES, by how many it is KNOWN, the TAPE, the FAULT")
    static void promise56AllButNotesTapeAndFault() {
        BlockWave w = Due.told("size 2;real 0 3;");
        w.note(0, 3, true);
        w.keep();
        w.note(0, 5, true);
        w.strike(0);
        w.known(2);
        Due.tell(w, "?");
        w.feed(0, 0, 0, 0, 0);
        Due.is("back()", w.back(), 0);
        Due.is("notes", w.count(10), 3);
        Due.is("known", w.count(11), 2);
        Due.is("the fault", w.fault(0), 1);
        Due.is("its place", w.fault(1), 0);
        Due.is("the tape", w.feed(0, 0, 0, 0, 0), 40);
    }

    @Edge("(it stays when it is gone back to)")
    static void promise56ItStaysWhenGoneBackTo() {
        BlockWave w = Due.told(LOUD);
        w.beat();
        w.keep();
        String kept = state(w);
        for (int times = 0; times < 3; times++) {
            w.beat();
            w.turnBack();
            Due.is("back() " + times, w.back(), 1);
            Due.yes("as it was kept " + times, state(w).equals(kept));
        }
        // What is done behind it doesn't come into the image, nor does what is undone.
        w.beat();
        w.undo();
        w.beatAll();
        Due.is("back() yet", w.back(), 1);
        Due.yes("as it was kept yet", state(w).equals(kept));
    }

    // ---- 57: counts

    @Edge("6 how many are done (forward or back), 7 whether it goes or went BACK (1, 0), 8 EXP (may be below 0)")
    static void promise57ForwardAndBack() {
        BlockWave w = Due.told("size 4;");
        int[][] due = {{0, 0, 0}, {1, 0, 0}, {2, 0, 0}, {0, 1, 0}, {1, 1, 0}, {2, 1, -2}};
        for (int step = 0; step < due.length; step++) {
            for (int what = 6; what <= 8; what++) {
                Due.is("step " + step + " count(" + what + ")", w.count(what), due[step][what - 6]);
            }
            if (step == 2) {
                w.turnBack();
            } else {
                w.beat();
            }
        }
        BlockWave far = Due.gone("size 32;radix 4;");
        far.beatAll();
        Due.is("EXP below 0", far.count(8), -5);
    }

    @Edge("10 NOTES and STRIKES, 11 by how many it is KNOWN (by all: all there are)")
    static void promise57NotesAndKnown() {
        BlockWave w = Due.told("size 4;");
        Due.is("none", w.count(10) * 100 + w.count(11), 0);
        for (int number = 0; number < 24; number++) {
            w.note(0, 1, true);
            Due.is("NOTES " + number, w.count(10), number + 1);
            Due.is("KNOWN by all " + number, w.count(11), number + 1);
        }
        w.note(0, 1, true);
        Due.is("24", w.count(10), 24);
        w.known(24);
        Due.is("by 24", w.count(11), 24);
        w.known(0);
        Due.is("by 0", w.count(11), 0);
        w.known(-1);
        Due.is("by all", w.count(11), 24);
        BlockWave strikes = Due.told("size 4;");
        strikes.note(0, 1, true);
        strikes.strike(0);
        Due.is("strikes, too", strikes.count(10), 2);
        Due.is("struck ones, too", strikes.count(11), 2);
    }

    @Edge("12 what can be undone.")
    static void promise57WhatCanBeUndone() {
        BlockWave w = Due.told("size 2;");
        for (int i = 0; i < 25; i++) {
            Due.is("to undo", w.count(12), Math.min(20, i));
            w.turnRound();
        }
        w.beatAll();
        Due.is("none", w.count(12), 0);
    }

    @Edge("Integer.MIN_VALUE for another what.")
    static void promise57AnotherWhat() {
        BlockWave w = Due.told("size 2;");
        for (int what : Due.outside(13)) {
            Due.is("count(" + what + ")", w.count(what), NO_COUNT);
        }
        for (int what = 0; what <= 12; what++) {
            Due.yes("count(" + what + ")", w.count(what) != NO_COUNT);
        }
    }
}
