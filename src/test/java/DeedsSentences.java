/** The sentences of promises 15 to 21: step, move, swap, value, undo, keep, on. */
final class DeedsSentences {
    private static final int BAD = Sentences.BAD, FULL = Sentences.FULL, STATE = Sentences.STATE;
    private static final int NONE = Sentences.NONE, NOTHING = Sentences.NOTHING;
    private static final int MOST = Sentences.MOST, LEAST = Sentences.LEAST;

    private DeedsSentences() {
    }

    static void tryAll(Sentences s) {
        promise15HowManyBeats(s);
        promise15State(s);
        promise15Full(s);
        promise15FullLast(s);
        promise16AWordMoves(s);
        promise16Bad(s);
        promise16State(s);
        promise16Full(s);
        promise16FullLast(s);
        promise17TwoChangeRound(s);
        promise17BadAlsoAlike(s);
        promise17Full(s);
        promise17FullLast(s);
        promise18Value(s);
        promise18Bad(s);
        promise18Full(s);
        promise18FullLast(s);
        promise19AreUndone(s);
        promise19EachSortIsUndone(s);
        promise19Bad(s);
        promise20IsKept(s);
        promise20Bad(s);
        promise20StateNoWords(s);
        promise21AsItWasKept(s);
        promise21Bad(s);
        promise21Nothing(s);
    }

    private static void promise15HowManyBeats(Sentences s) {
        s.about(15, "A STEP: how many beats it took.");
        s.from("d9 j001 n100").gives(1, "step");
        s.from("d9 j801 n100").gives(9, "step");
        s.from("d9 t001 n100").gives(1 + 9 + 2, "step");
        DrumWords x = Check.drumOf("d9 t810 n799");
        s.due("waits 8, READ, waits 7, READ, 11 beats", x.step(), 8 + 1 + 7 + 1 + 11);
        s.due("the BEAT", x.count(3), 28);
        s.due("the next one", x.step(), 7 + 1 + 7 + 1 + 11);
        s.due("the BEAT", x.count(3), 55);
        s.due("DEEDS", x.count(2), 2);
        s.due("STEPS", x.count(6), 2);
        DrumWords most = Drums.withSteps(Drums.PAIR, 39);
        s.due("the last DEED", most.step(), 6);
        s.due("as many as there may be", most.count(2), 40);
        s.due("240 beats", most.count(3), 240);
        s.due("40 times 50", most.count(4), 0);
    }

    private static void promise15State(Sentences s) {
        s.about(15, "STATE: no WORDS, nothing is due");
        s.from(DrumWords::new).refuses(STATE, "step");
        s.from(Drums::wordless).refuses(STATE, "step");
        s.from(Drums::stopped).refuses(STATE, "step");
        DrumWords x = Drums.stopped();
        x.undo(1);
        s.due("undone, it is due again", x.step(), 4);
    }

    private static void promise15Full(Sentences s) {
        s.about(15, "FULL: 40 DEEDS.");
        s.from(Drums::full).refuses(FULL, "step");
        s.from(() -> Drums.withDeeds(Drums.PAIR, 40)).refuses(FULL, "step");
        s.from(() -> Drums.withDeeds(Drums.PAIR, 39)).gives(6, "step");
        s.from(() -> Drums.withSteps(Drums.PAIR, 40)).refuses(FULL, "step");
    }

    private static void promise15FullLast(Sentences s) {
        s.about(15, "(FULL last.)");
        s.from(Drums::stoppedAndFull).refuses(STATE, "step");
    }

    private static void promise16AWordMoves(Sentences s) {
        s.about(16, "A WORD moves: the PLACE ahead.");
        s.from(Drums.PAIR).gives(0, "move", 0, 1);
        s.gives(0, "move", 0, 5);
        s.gives(3, "move", 1, 5);
        s.from("d9 n000 n800").gives(8, "move", 1, 7);
        s.gives(0, "move", 0, 7);
        DrumWords x = Check.drumOf(Drums.PAIR);
        x.move(0, 5);
        s.due("it lies there", Drums.ofWord(x, 0, 1), 5);
        s.due("another one stays", Drums.ofWord(x, 1, 1), 3);
        s.due("the PLACE ahead is free", x.move(1, 0), 3);
        s.due("there and back", x.move(1, 3), 0);
        s.due("three DEEDS", x.count(2), 3);
        s.due("the BEAT stays", x.count(3), 0);
        DrumWords stopped = Drums.stopped();
        s.due("one that has STOPPED", stopped.move(1, 8), 4);
    }

    private static void promise16Bad(Sentences s) {
        s.about(16, "BAD");
        s.from(Drums::rich).refuses(BAD, "move", -1, 4);
        s.refuses(BAD, "move", 6, 4);
        s.refuses(BAD, "move", 0, -1);
        s.refuses(BAD, "move", 0, 8);
        s.refuses(BAD, "move", MOST, LEAST);
        s.refuses(BAD, "move", 6, 6);
        s.gives(6, "move", 0, 4);
        s.gives(6, "move", 0, 0);
        s.from(Drums.PAIR).refuses(BAD, "move", 2, 5);
        s.refuses(BAD, "move", 0, 6);
        s.from(Drums::wordless).refuses(BAD, "move", 0, 0);
    }

    private static void promise16State(Sentences s) {
        s.about(16, "STATE: a WORD lies there");
        s.from(Drums::rich);
        for (int place : new int[] {1, 2, 3, 5, 6, 7}) {
            s.refuses(STATE, "move", 0, place);
        }
        s.refuses(STATE, "move", 1, 7);
        s.from(Drums.CROWDED);
        for (int place = 0; place < 6; place++) {
            s.refuses(STATE, "move", 3, place);
        }
    }

    private static void promise16Full(Sentences s) {
        s.about(16, "FULL");
        s.from(Drums::full).refuses(FULL, "move", 0, 4);
        s.from(() -> Drums.withDeeds(Drums.PAIR, 39)).gives(0, "move", 0, 1);
        s.from(() -> Drums.withDeeds(Drums.PAIR, 40)).refuses(FULL, "move", 0, 1);
    }

    private static void promise16FullLast(Sentences s) {
        s.about(16, "(FULL last.)");
        s.from(Drums::full).refuses(STATE, "move", 0, 6);
        s.refuses(STATE, "move", 0, 7);
        s.refuses(BAD, "move", 0, 8);
        s.refuses(BAD, "move", 6, 4);
    }

    private static void promise17TwoChangeRound(Sentences s) {
        s.about(17, "Two WORDS change round: the PLACE of the first one then.");
        s.from(Drums.PAIR).gives(3, "swap", 0, 1);
        s.gives(0, "swap", 1, 0);
        s.from(Drums.CROWDED).gives(5, "swap", 0, 5);
        s.gives(0, "swap", 5, 0);
        DrumWords x = Check.drumOf(Drums.CROWDED);
        x.swap(1, 4);
        int[] places = {0, 4, 2, 3, 1, 5};
        for (int i = 0; i < 6; i++) {
            s.due("PLACE of " + i, Drums.ofWord(x, i, 1), places[i]);
        }
        s.due("one DEED", x.count(2), 1);
        s.due("back", x.swap(4, 1), 4);
        s.due("two DEEDS", x.count(2), 2);
        s.due("as at first", x.takes(2), 2);
    }

    private static void promise17BadAlsoAlike(Sentences s) {
        s.about(17, "BAD: also alike");
        s.from(Drums::rich);
        for (int i = -1; i <= 6; i++) {
            s.refuses(BAD, "swap", i, i);
        }
        s.refuses(BAD, "swap", -1, 0);
        s.refuses(BAD, "swap", 0, -1);
        s.refuses(BAD, "swap", 6, 0);
        s.refuses(BAD, "swap", 0, 6);
        s.refuses(BAD, "swap", MOST, LEAST);
        s.gives(6, "swap", 5, 0);
        s.from(Drums.PAIR).refuses(BAD, "swap", 0, 2);
        s.from(Drums::wordless).refuses(BAD, "swap", 0, 1);
    }

    private static void promise17Full(Sentences s) {
        s.about(17, "FULL");
        s.from(Drums::full).refuses(FULL, "swap", 0, 1);
        s.from(() -> Drums.withDeeds(Drums.PAIR, 39)).gives(3, "swap", 0, 1);
        s.from(() -> Drums.withDeeds(Drums.PAIR, 40)).refuses(FULL, "swap", 0, 1);
    }

    private static void promise17FullLast(Sentences s) {
        s.about(17, "(FULL last.)");
        s.from(Drums::full).refuses(BAD, "swap", 0, 6);
        s.refuses(BAD, "swap", 3, 3);
    }

    private static void promise18Value(Sentences s) {
        s.about(18, "VALUE (0 .. 99) of a WORD: what it was.");
        s.from(Drums.PAIR).gives(50, "value", 1, 0);
        s.gives(50, "value", 1, 99);
        s.gives(0, "value", 0, 99);
        DrumWords x = Check.drumOf(Drums.PAIR);
        x.value(1, 99);
        s.due("the last one", Drums.ofWord(x, 1, 2), 99);
        s.due("the first one", x.value(1, 0), 99);
        s.due("none", Drums.ofWord(x, 1, 2), 0);
        s.due("told alike", x.value(1, 0), 0);
        s.due("it is a DEED, too", x.count(2), 3);
        s.due("another one stays", Drums.ofWord(x, 0, 2), 0);
        x.value(1, 1);
        x.step();
        s.due("it is used", x.count(4), 1);
    }

    private static void promise18Bad(Sentences s) {
        s.about(18, "BAD");
        s.from(Drums::rich).refuses(BAD, "value", 0, -1);
        s.refuses(BAD, "value", 0, 100);
        s.refuses(BAD, "value", 0, MOST);
        s.refuses(BAD, "value", 0, LEAST);
        s.refuses(BAD, "value", -1, 0);
        s.refuses(BAD, "value", 6, 0);
        s.gives(12, "value", 5, 99);
        s.from(Drums.PAIR).refuses(BAD, "value", 2, 0);
        s.from(Drums::wordless).refuses(BAD, "value", 0, 0);
    }

    private static void promise18Full(Sentences s) {
        s.about(18, "FULL");
        s.from(Drums::full).refuses(FULL, "value", 0, 1);
        s.from(() -> Drums.withDeeds(Drums.PAIR, 39)).gives(50, "value", 1, 1);
        s.from(() -> Drums.withDeeds(Drums.PAIR, 40)).refuses(FULL, "value", 1, 50);
    }

    private static void promise18FullLast(Sentences s) {
        s.about(18, "(FULL last.)");
        s.from(Drums::full).refuses(BAD, "value", 0, 100);
        s.refuses(BAD, "value", 6, 0);
    }

    private static void promise19AreUndone(Sentences s) {
        s.about(19, "DEEDS from number n on are undone: how many.");
        s.from(Drums::rich).gives(5, "undo", 0);
        s.gives(4, "undo", 1);
        s.gives(1, "undo", 4);
        s.aside(0, "undo", 5);
        s.from(Drums::full).gives(40, "undo", 0);
        s.gives(1, "undo", 39);
        s.aside(0, "undo", 40);
        s.from(() -> Check.drumOf(Drums.PAIR)).aside(0, "undo", 0);
        s.from(Drums::wordless).aside(0, "undo", 0);
        DrumWords x = Drums.full();
        x.undo(39);
        s.due("one more can be done", x.value(0, 1), 0);
        s.due("not two", x.value(0, 2), FULL);
        s.due("those undone are gone", x.undo(40), 0);
    }

    private static void promise19EachSortIsUndone(Sentences s) {
        s.about(19, "are undone");
        long[] behind = new long[9];
        DrumWords x = Check.drumOf("d9 a021 s130 n277 n300");
        behind[0] = x.digest();
        for (int k = 1; k <= 8; k++) {
            int v = k % 4 == 1 ? x.step() : k % 4 == 2 ? x.move(k / 4, 8 - k / 4)
                : k % 4 == 3 ? x.swap(0, 3) : x.value(3, 10 * k);
            s.due("DEED " + k + " is done", v >= 0 ? 1 : 0, 1);
            behind[k] = x.digest();
        }
        for (int n = 8; n >= 0; n--) {
            s.due("undo(" + n + ")", x.undo(n), n == 8 ? 0 : 1);
            s.due("as it was behind " + n, x.digest(), behind[n]);
        }
        DrumWords stored = Check.drumOf("d9 a021 s133 n277 n300");
        stored.step();
        stored.step();
        stored.step();
        s.due("it has STOPPED", stored.count(5), NONE);
        s.due("a STOP is undone", stored.undo(2) == 1 ? stored.count(5) : NONE, 3);
        s.due("what was stored is there", Drums.ofWord(stored, 3, 2), 77);
        stored.undo(1);
        s.due("a STORE is undone", Drums.ofWord(stored, 3, 2), 0);
        s.due("the SUM is as behind one", stored.count(4), 77);
        stored.undo(0);
        s.due("the SUM is as at first", stored.count(4), 0);
    }

    private static void promise19Bad(Sentences s) {
        s.about(19, "BAD");
        s.from(Drums::rich).refuses(BAD, "undo", -1);
        s.refuses(BAD, "undo", 6);
        s.refuses(BAD, "undo", MOST);
        s.refuses(BAD, "undo", LEAST);
        s.from(Drums::full).refuses(BAD, "undo", 41);
        s.from(Drums::wordless).refuses(BAD, "undo", 1);
        s.refuses(BAD, "undo", -1);
    }

    private static void promise20IsKept(Sentences s) {
        s.about(20, "The DRUM (as it is, DEEDS) is kept in a place (0 .. 2): how many DEEDS.");
        s.from(Drums::rich).gives(5, "keep", 0);
        s.gives(5, "keep", 1);
        s.gives(5, "keep", 2);
        s.from(Drums::full).gives(40, "keep", 2);
        s.from(Drums.PAIR).gives(0, "keep", 0);
        DrumWords x = Check.drumOf(Drums.PAIR);
        for (int k = 0; k < 3; k++) {
            s.due("keep(" + k + ")", x.keep(k), k);
            s.due("kept DRUMS", x.count(10), k + 1);
            x.step();
        }
        s.due("kept over another one", x.keep(0), 3);
        s.due("as many are kept", x.count(10), 3);
        for (int k = 0; k < 3; k++) {
            s.due("on(" + k + ")", x.on(k), k == 0 ? 3 : k);
            s.due("the BEAT", x.count(3), k == 0 ? 18 : 6 * k);
        }
    }

    private static void promise20Bad(Sentences s) {
        s.about(20, "BAD");
        s.from(Drums::rich).refuses(BAD, "keep", -1);
        s.refuses(BAD, "keep", 3);
        s.refuses(BAD, "keep", MOST);
        s.refuses(BAD, "keep", LEAST);
        s.from(Drums::wordless).refuses(BAD, "keep", -1);
        s.refuses(BAD, "keep", 3);
    }

    private static void promise20StateNoWords(Sentences s) {
        s.about(20, "STATE: no WORDS.");
        s.from(Drums::wordless);
        for (int k = 0; k < 3; k++) {
            s.refuses(STATE, "keep", k);
        }
        s.from(DrumWords::new).refuses(STATE, "keep", 0);
        s.from(Drums::stopped).gives(2, "keep", 0);
    }

    private static void promise21AsItWasKept(Sentences s) {
        s.about(21, "The DRUM is as it was kept: how many DEEDS.");
        s.from(Drums::rich).gives(5, "on", 0);
        s.gives(1, "on", 1);
        s.aside(5, "on", 0);
        DrumWords x = Drums.rich();
        long kept = x.digest();
        x.undo(0);
        x.value(0, 99);
        x.swap(0, 1);
        s.due("on(0)", x.on(0), 5);
        s.due("as it was kept", x.digest(), kept);
        s.due("it stays kept", x.undo(0) == 5 ? x.on(0) : NONE, 5);
        s.due("as it was kept", x.digest(), kept);
        s.due("DEEDS, too", x.undo(1), 4);
        s.due("the other one", x.on(1), 1);
        s.due("it is as the other one was", x.count(3), 6);
        promise21ItsOwnDeeds(s);
        DrumWords full = Drums.full();
        full.keep(2);
        full.undo(0);
        s.due("as many as there may be", full.on(2), 40);
        s.due("they are FULL", full.step(), FULL);
        DrumWords stopped = Drums.stopped();
        s.due("ahead of a STOP", stopped.on(2), 1);
        s.due("it is due again", stopped.count(5), 1);
        s.due("and gone on from", stopped.step(), 4);
    }

    /** Kept is a STEP, a move of 1 to 5, a change of 0 and 1; then three others are done. */
    private static void promise21ItsOwnDeeds(Sentences s) {
        int[][] places = {{0, 3}, {0, 3}, {0, 5}, {5, 0}};
        DrumWords x = Check.drumOf(Drums.PAIR);
        x.step();
        x.move(1, 5);
        x.swap(0, 1);
        x.keep(0);
        x.undo(0);
        x.value(1, 2);
        x.swap(0, 1);
        x.move(1, 4);
        s.due("on(0)", x.on(0), 3);
        for (int n = 3; n >= 0; n--) {
            x.undo(n);
            s.due("its own DEEDS, the BEAT behind " + n, x.count(3), n > 0 ? 6 : 0);
            s.due("its own DEEDS, the SUM behind " + n, x.count(4), n > 0 ? 50 : 0);
            s.due("its own DEEDS, PLACE of 0 behind " + n, Drums.ofWord(x, 0, 1), places[n][0]);
            s.due("its own DEEDS, PLACE of 1 behind " + n, Drums.ofWord(x, 1, 1), places[n][1]);
        }
    }

    private static void promise21Bad(Sentences s) {
        s.about(21, "BAD");
        s.from(Drums::rich).refuses(BAD, "on", -1);
        s.refuses(BAD, "on", 3);
        s.refuses(BAD, "on", MOST);
        s.refuses(BAD, "on", LEAST);
        s.from(DrumWords::new).refuses(BAD, "on", 3);
    }

    private static void promise21Nothing(Sentences s) {
        s.about(21, "NOTHING");
        s.from(Drums::rich).finds(NOTHING, "on", 2);
        s.from(Drums::stopped).finds(NOTHING, "on", 0);
        s.finds(NOTHING, "on", 1);
        s.from(Drums::wordless).finds(NOTHING, "on", 0);
        s.from(Drums.PAIR).finds(NOTHING, "on", 2);
    }
}
