/** Promises 15 to 21: step, move, swap, value, undo, keep, on. */
public final class DeedsTest {
    private static final int NOTHING = 1;
    private static final int BAD = DrumWords.BAD, FULL = DrumWords.FULL, STATE = DrumWords.STATE;
    private static final int NONE = DrumWords.NONE;
    private static final String LOOP = "d8 a041 t152 e213 s640 n307 n712";

    public static void main(String[] args) {
        Check c = new Check("DeedsTest");
        stepsOfALoop(c);
        stepsOfEachKind(c);
        stepStops(c);
        stepsWithThemselves(c);
        move(c);
        swap(c);
        value(c);
        fullLast(c);
        undo(c);
        keepAndOn(c);
        c.end();
    }

    private static void dueCounts(Check c, DrumWords x, String when, int... wanted) {
        int[] what = {3, 4, 5, 6, 2};
        for (int k = 0; k < wanted.length; k++) {
            c.due(when + ", count(" + what[k] + ")", x.count(what[k]), wanted[k]);
        }
    }

    private static void stepsOfALoop(Check c) {
        DrumWords x = Check.drumOf(LOOP);
        int[] took = {6, 13, 9, 15, 9, 9};
        int[] sums = {7, 84, 84, 8, 8, 8};
        int[] dues = {1, 2, 1, 2, 3, 0};
        int beat = 0;
        for (int s = 0; s < took.length; s++) {
            c.due("step " + s, x.step(), took[s]);
            beat += took[s];
            dueCounts(c, x, "behind step " + s, beat, sums[s], dues[s], s + 1, s + 1);
        }
        c.dueAsked(x, "stored", x.word(4, 2), 8);
    }

    private static void stepsOfEachKind(Check c) {
        DrumWords add = Check.drumOf("d6 a010 n299");
        c.due("an ADD", add.step(), 1 + 1 + 1 + 2);
        c.due("an ADD again", add.step(), 1 + 1 + 1 + 1 + 2);
        dueCounts(c, add, "two ADDS", 11, 98, 0, 2, 2);
        DrumWords store = Check.drumOf("d6 s010 n299");
        c.due("a STORE", store.step(), 1 + 1 + 1 + 1);
        c.dueAsked(store, "0 was stored", store.word(1, 2), 0);
        DrumWords jump = Check.drumOf("d6 j012 n299 j500");
        c.due("a JUMP", jump.step(), 1);
        dueCounts(c, jump, "a JUMP", 1, 0, 2, 1, 1);
        c.due("a JUMP", jump.step(), 5);
        DrumWords test = Check.drumOf("d6 e012 n299 n300");
        c.due("a TEST", test.step(), 2);
        dueCounts(c, test, "a TEST", 2, 0, 2, 1, 1);
        DrumWords times = Check.drumOf("d6 a021 t122 n337");
        c.due("an ADD", times.step(), 1 + 2 + 1 + 2);
        c.due("TIMES 37", times.step(), 1 + 1 + 1 + 1 + 5);
        dueCounts(c, times, "37 times 37, left over by 100", 15, 69, 2, 2, 2);
    }

    private static void stepStops(Check c) {
        DrumWords x = Check.drumOf("d9 j011 n400");
        c.due("a JUMP", x.step(), 1);
        c.due("a NUMBER", x.step(), 4);
        dueCounts(c, x, "it STOPS behind being READ", 5, 0, NONE, 2, 2);
        c.dueAsked(x, "a NUMBER's STEP was done", x.word(1, 5), 1);
        c.due("nothing is due", x.step(), STATE);
        dueCounts(c, x, "a refused step()", 5, 0, NONE, 2, 2);
        c.due("without WORDS", new DrumWords().step(), STATE);
    }

    private static void stepsWithThemselves(Check c) {
        DrumWords x = Check.drumOf("d6 a001 s110");
        x.value(0, 60);
        c.due("an ADD with itself", x.step(), 1 + 5 + 1 + 2);
        c.due("60 came to the SUM", x.count(4), 60);
        c.due("a STORE on itself", x.step(), 4 + 1 + 5 + 1 + 1);
        c.dueAsked(x, "60 was stored there", x.word(1, 2), 60);
        c.due("and on", x.step() > 0 ? x.count(4) : NONE, 20);
    }

    private static void move(Check c) {
        DrumWords x = Check.drumOf("d6 a010 n350");
        c.due("move(1, 5)", x.move(1, 5), 3);
        c.due("move(0, 3)", x.move(0, 3), 0);
        dueCounts(c, x, "moves take no beats", 0, 0, 0, 0, 2);
        c.due("it lies there", x.step(), 3 + 1 + 1 + 1 + 2);
        c.due("another one lies there", x.move(0, 5), STATE);
        c.due("it lies there itself", x.move(0, 3), STATE);
        c.due("move(0, 6)", x.move(0, 6), BAD);
        c.due("move(0, -1)", x.move(0, -1), BAD);
        c.due("move(2, 0)", x.move(2, 0), BAD);
        c.due("move(-1, 0)", x.move(-1, 0), BAD);
        c.due("BAD ahead of STATE", x.move(2, 3), BAD);
        c.due("three DEEDS", x.count(2), 3);
        c.due("without WORDS", new DrumWords().move(0, 0), BAD);
    }

    private static void swap(Check c) {
        DrumWords x = Check.drumOf(LOOP);
        c.due("swap(0, 5)", x.swap(0, 5), 7);
        c.dueAsked(x, "the first one", x.word(0, 1), 7);
        c.dueAsked(x, "the other one", x.word(5, 1), 0);
        c.due("swap(3, 0)", x.swap(3, 0), 7);
        c.dueAsked(x, "the first one", x.word(3, 1), 7);
        c.dueAsked(x, "the other one", x.word(0, 1), 6);
        c.due("alike", x.swap(2, 2), BAD);
        c.due("swap(0, 6)", x.swap(0, 6), BAD);
        c.due("swap(6, 0)", x.swap(6, 0), BAD);
        c.due("swap(-1, 0)", x.swap(-1, 0), BAD);
        c.due("swap(0, -1)", x.swap(0, -1), BAD);
        dueCounts(c, x, "two DEEDS", 0, 0, 0, 0, 2);
        c.due("without WORDS", new DrumWords().swap(0, 1), BAD);
    }

    private static void value(Check c) {
        DrumWords x = Check.drumOf("d6 a010 n350");
        c.due("value(1, 99)", x.value(1, 99), 50);
        c.due("value(1, 0)", x.value(1, 0), 99);
        c.due("an ADD has one, too", x.value(0, 3), 0);
        c.due("told alike", x.value(0, 3), 3);
        c.dueAsked(x, "word(0, 2)", x.word(0, 2), 3);
        c.due("value(0, 100)", x.value(0, 100), BAD);
        c.due("value(0, -1)", x.value(0, -1), BAD);
        c.due("value(2, 0)", x.value(2, 0), BAD);
        c.due("value(-1, 0)", x.value(-1, 0), BAD);
        dueCounts(c, x, "four DEEDS", 0, 0, 0, 0, 4);
        c.due("without WORDS", new DrumWords().value(0, 0), BAD);
    }

    private static void fullLast(Check c) {
        DrumWords x = Check.drumOf("d6 a010 n350");
        for (int k = 0; k < 40; k++) {
            c.due("DEED " + k, x.value(1, k), k == 0 ? 50 : k - 1);
        }
        c.due("step()", x.step(), FULL);
        c.due("move(0, 1)", x.move(0, 1), FULL);
        c.due("swap(0, 1)", x.swap(0, 1), FULL);
        c.due("value(0, 1)", x.value(0, 1), FULL);
        c.due("BAD ahead of FULL, move()", x.move(0, 6), BAD);
        c.due("STATE ahead of FULL, move()", x.move(0, 3), STATE);
        c.due("BAD ahead of FULL, swap()", x.swap(1, 1), BAD);
        c.due("BAD ahead of FULL, value()", x.value(0, 100), BAD);
        dueCounts(c, x, "nothing changed", 0, 0, 0, 0, 40);
        c.dueAsked(x, "nothing changed", x.word(1, 2), 39);
        x.undo(39);
        c.due("one is free", x.step(), 6);
        c.due("FULL again", x.step(), FULL);
        DrumWords y = Check.drumOf("d6 n000 n111");
        y.step();
        for (int k = 0; k < 39; k++) {
            y.value(1, k);
        }
        c.due("STATE ahead of FULL, step()", y.step(), STATE);
    }

    private static void undo(Check c) {
        DrumWords x = Check.drumOf(LOOP);
        long first = x.digest();
        x.step();
        x.move(2, 5);
        long third = x.digest();
        x.swap(0, 3);
        x.value(4, 66);
        x.step();
        x.step();
        x.step();
        c.due("undo(8)", x.undo(8), BAD);
        c.due("undo(-1)", x.undo(-1), BAD);
        long last = x.digest();
        c.due("undo(7)", x.undo(7), 0);
        c.due("none undone", x.digest(), last);
        c.due("undo(2)", x.undo(2), 5);
        c.due("as it was behind two DEEDS", x.digest(), third);
        dueCounts(c, x, "behind two DEEDS", 6, 7, 1, 1, 2);
        c.due("undo(3)", x.undo(3), BAD);
        x.step();
        x.undo(2);
        c.due("undone once more", x.digest(), third);
        c.due("undo(0)", x.undo(0), 2);
        c.due("as at first", x.digest(), first);
        DrumWords y = Check.drumOf("d6 a021 s120 n407");
        y.value(2, 41);
        y.step();
        y.step();
        y.value(2, 5);
        y.step();
        c.due("three go", y.undo(2), 3);
        c.dueAsked(y, "VALUE as it was", y.word(2, 2), 41);
        c.due("all go", y.undo(0), 2);
        c.dueAsked(y, "VALUE as at first", y.word(2, 2), 7);
        DrumWords none = new DrumWords();
        c.due("without WORDS, undo(0)", none.undo(0), 0);
        c.due("without WORDS, undo(1)", none.undo(1), BAD);
    }

    private static void keepAndOn(Check c) {
        DrumWords x = Check.drumOf(LOOP);
        c.dueFinding(x, "on(1)", x.on(1), NOTHING);
        c.due("keep(0)", x.keep(0), 0);
        x.step();
        x.swap(1, 2);
        c.due("keep(2)", x.keep(2), 2);
        c.due("two are kept", x.count(10), 2);
        long kept = x.digest();
        x.step();
        x.value(5, 1);
        x.move(0, 4);
        c.due("on(2)", x.on(2), 2);
        c.due("as it was kept", x.digest(), kept);
        c.due("its DEEDS, too", x.undo(1), 1);
        c.due("on(2) again", x.on(2), 2);
        c.due("it stays kept", x.digest(), kept);
        c.due("undone to its start", x.undo(0), 2);
        x.value(0, 9);
        x.value(1, 9);
        x.value(2, 9);
        c.due("gone on from", x.on(2), 2);
        c.due("its own DEEDS", x.undo(1), 1);
        dueCounts(c, x, "its own STEP", 6, 7, 1, 1, 1);
        c.dueAsked(x, "no VALUE was told", x.word(0, 2), 0);
        c.due("on(0)", x.on(0), 0);
        dueCounts(c, x, "as at first", 0, 0, 0, 0, 0);
        x.value(0, 1);
        c.due("kept anew", x.keep(2), 1);
        c.due("two are kept", x.count(10), 2);
        c.due("on(2)", x.on(2), 1);
        c.due("keep(3)", x.keep(3), BAD);
        c.due("keep(-1)", x.keep(-1), BAD);
        c.due("on(3)", x.on(3), BAD);
        c.due("on(-1)", x.on(-1), BAD);
        DrumWords none = new DrumWords();
        c.due("without WORDS, keep(0)", none.keep(0), STATE);
        c.due("BAD ahead of STATE", none.keep(3), BAD);
        c.dueFinding(none, "without WORDS, on(0)", none.on(0), NOTHING);
    }
}
