/** Promises 22 to 25: takes, idle, stops, when. */
public final class StepsTest {
    private static final int BAD = DrumWords.BAD, STATE = DrumWords.STATE, NONE = DrumWords.NONE;
    /** Its STEPS take 6, 13, 9, 15, 9, 9 beats; the SUM is 7, 84, 84, 8, 8, 8 behind them. */
    private static final String LOOP = "d8 a041 t152 e213 s640 n307 n712";
    /** Adds 2 until the SUM is 50, then STOPS: behind 51 STEPS. */
    private static final String COUNTER = "d9 a021 e130 n202 n300";
    /** Adds and stores: WORD 3 is 1, 2, .. behind 2, 4, .. STEPS. */
    private static final String TALLY = "d9 a021 s130 n201 n300";

    public static void main(String[] args) {
        Check c = new Check("StepsTest");
        takes(c);
        idle(c);
        stops(c);
        when(c);
        refused(c);
        c.end();
    }

    private static void takes(Check c) {
        DrumWords x = Check.drumOf(LOOP);
        long before = x.digest();
        int[] took = {0, 6, 19, 28, 43, 52, 61};
        int[] sums = {0, 7, 84, 84, 8, 8, 8};
        for (int n = 0; n < took.length; n++) {
            c.dueAsked(x, "takes(" + n + ")", x.takes(n), took[n], sums[n]);
        }
        c.due("it is aside", x.digest(), before);
        x.step();
        x.step();
        c.dueAsked(x, "from now on", x.takes(2), 24, 8);
        c.dueAsked(x, "none from now on", x.takes(0), 0, 84);
        DrumWords y = Check.drumOf("d9 j011 n400");
        c.dueAsked(y, "it STOPS ahead", y.takes(40), 5, 0);
        y.step();
        y.step();
        c.dueAsked(y, "it has STOPPED", y.takes(40), 0, 0);
    }

    private static void idle(Check c) {
        DrumWords x = Check.drumOf(LOOP);
        long before = x.digest();
        c.dueShare(x, "idle(0)", x.idle(0), 0, Check.share(0, 1));
        c.dueShare(x, "idle(1)", x.idle(1), 2, Check.share(1, 3));
        c.dueShare(x, "idle(2)", x.idle(2), 10, Check.share(10, 19));
        c.dueShare(x, "idle(3)", x.idle(3), 17, Check.share(17, 28));
        c.dueShare(x, "idle(5)", x.idle(5), 34, Check.share(17, 26));
        c.due("it is aside", x.digest(), before);
        c.due("it tells nothing by asked()", x.asked(), 0);
        DrumWords y = Check.drumOf("d9 j011 n100");
        c.dueShare(y, "none is waited", y.idle(40), 0, Check.share(0, 1));
        DrumWords z = Check.drumOf("d6 a010 n350");
        c.dueShare(z, "idle(40)", z.idle(40), 80, Check.share(1, 3));
    }

    private static void stops(Check c) {
        DrumWords x = Check.drumOf("d9 j011 n400");
        c.due("behind a JUMP and a NUMBER", x.stops(), 2);
        x.step();
        c.due("behind a NUMBER", x.stops(), 1);
        x.step();
        c.due("it has STOPPED", x.stops(), 0);
        c.due("it goes round", Check.drumOf(LOOP).stops(), NONE);
        DrumWords y = Check.drumOf(COUNTER);
        for (int s = 0; s < 10; s++) {
            y.step();
        }
        c.due("41 are to come", y.stops(), NONE);
        y.step();
        c.due("40 are to come", y.stops(), 40);
    }

    private static void when(Check c) {
        DrumWords x = Check.drumOf(TALLY);
        long before = x.digest();
        c.dueAsked(x, "when(3, 1)", x.when(3, 1), 2, 14);
        c.dueAsked(x, "when(3, 2)", x.when(3, 2), 4, 32);
        c.dueAsked(x, "when(3, 0)", x.when(3, 0), 0, 0);
        c.dueAsked(x, "when(3, 20)", x.when(3, 20), 40, 14 + 19 * 18);
        c.dueAsked(x, "not by then", x.when(3, 21), NONE, 14 + 19 * 18);
        c.dueAsked(x, "it is already", x.when(2, 1), 0, 0);
        c.due("it is aside", x.digest(), before);
        x.step();
        c.dueAsked(x, "39 STEPS from now on", x.when(3, 20), 39, 9 + 19 * 18);
        c.due("41 STEPS from now on", x.when(3, 21), NONE);
        x.value(2, 40);
        c.dueAsked(x, "or more", x.when(3, 30), 3, 9 + 9 + 9);
        DrumWords y = Check.drumOf("d9 j011 n499");
        c.due("it STOPS ahead", y.when(0, 1), NONE);
        c.dueAsked(y, "when(1, 99)", y.when(1, 99), 0, 0);
    }

    private static void refused(Check c) {
        DrumWords none = new DrumWords();
        DrumWords x = Check.drumOf(LOOP);
        int[] wrong = {-1, 41, Integer.MIN_VALUE, Integer.MAX_VALUE};
        for (int n : wrong) {
            c.due("takes(" + n + ")", x.takes(n), BAD);
            c.due("idle(" + n + ")", x.idle(n), BAD);
            c.due("BAD ahead of STATE, takes(" + n + ")", none.takes(n), BAD);
            c.due("BAD ahead of STATE, idle(" + n + ")", none.idle(n), BAD);
        }
        c.due("takes(40) without WORDS", none.takes(40), STATE);
        c.due("idle(40) without WORDS", none.idle(40), STATE);
        c.due("stops() without WORDS", none.stops(), STATE);
        c.due("when(0, 0) without WORDS", none.when(0, 0), BAD);
        c.due("when(6, 0)", x.when(6, 0), BAD);
        c.due("when(-1, 0)", x.when(-1, 0), BAD);
        c.due("when(0, 100)", x.when(0, 100), BAD);
        c.due("when(0, -1)", x.when(0, -1), BAD);
        c.due("nothing was told", x.asked(), 0);
    }
}
