/** Promises 26 to 29: place, best, least, clerk. */
public final class PlacingsTest {
    private static final int BAD = DrumWords.BAD, STATE = DrumWords.STATE, NONE = DrumWords.NONE;
    private static final String PAIR = "d6 a010 n350";
    private static final String LOOP = "d8 a041 t152 e213 s640 n307 n712";

    public static void main(String[] args) {
        Check c = new Check("PlacingsTest");
        place(c);
        best(c);
        least(c);
        leastFromNowOn(c);
        clerk(c);
        refused(c);
        c.end();
    }

    private static void place(Check c) {
        DrumWords x = Check.drumOf(PAIR);
        long before = x.digest();
        c.dueAsked(x, "place(1, 1)", x.place(1, 1), 1, 4);
        c.dueAsked(x, "place(1, 2)", x.place(1, 2), 1, 10);
        c.dueAsked(x, "0, 1, 2 are alike", x.place(0, 1), 0, 6);
        c.dueAsked(x, "all are alike", x.place(1, 0), 1, 0);
        c.due("it is aside", x.digest(), before);
        x.move(0, 2);
        c.dueAsked(x, "another one is alike", x.place(0, 1), 0, 6);
        x.move(0, 5);
        x.move(1, 0);
        c.dueAsked(x, "its own one is best", x.place(1, 1), 0, 9);
        DrumWords y = Check.drumOf(LOOP);
        c.dueAsked(y, "place(1, 6)", y.place(1, 6), 4, 53);
        y.step();
        c.dueAsked(y, "from now on", y.place(1, 1), 1, 13);
        DrumWords ahead = Check.drumOf("d6 a510 n300 n000");
        c.dueAsked(ahead, "0 is taken", ahead.place(1, 1), 1, 10);
        DrumWords full = Check.drumOf("d6 a010 n300 n100 n200 n400 n500");
        c.dueAsked(full, "no PLACE is free", full.place(1, 1), 3, 6);
    }

    private static void best(Check c) {
        DrumWords x = Check.drumOf("d6 a310 n050 n100");
        long before = x.digest();
        c.dueAsked(x, "0 and 1", x.best(1), 1, 6);
        c.due("it is aside", x.digest(), before);
        DrumWords y = Check.drumOf(PAIR);
        y.takes(2);
        c.dueAsked(y, "no two make it less", y.best(1), NONE, 0);
        c.dueAsked(y, "none of no STEPS", y.best(0), NONE, 0);
        DrumWords z = Check.drumOf(LOOP);
        c.dueAsked(z, "best(6)", z.best(6), 25, 37);
        c.dueAsked(z, "NONE leaves asked()", z.best(0), NONE, 37);
        DrumWords ties = Check.drumOf("d6 j303 n100 n500 n400 n200");
        c.dueAsked(ties, "0 and 1 comes ahead of 0 and 4", ties.best(1), 1, 2);
        DrumWords alike = Check.drumOf("d9 j001 j802 j700 n100 n200");
        c.dueAsked(alike, "1 and 3", alike.best(2), 13, 2);
    }

    private static void least(Check c) {
        DrumWords x = Check.drumOf(PAIR);
        c.due("least(1, 2)", x.least(1, 2), 4);
        c.dueRow(x, "PLACES", 2, 0, 1);
        c.due("least(0, 2)", x.least(0, 2), 0);
        c.dueRow(x, "PLACES", 2, 0, 1);
        x.row(3, 40);
        x.lay(3, 1, 9);
        c.due("a ROW anew", x.least(2, 3), 10);
        c.dueRow(x, "PLACES", 3, 0, 1);
        c.dueAsked(x, "the DRUM stays", x.word(1, 1), 3);
        c.due("no DEEDS", x.count(2), 0);
        DrumWords y = Check.drumOf(LOOP);
        c.due("least(6, 5)", y.least(6, 5), 27);
        c.dueRow(y, "PLACES", 5, 0, 4, 2, 5, 1, 6);
        c.due("least(12, 5)", y.least(12, 5), 59);
        c.due("least(0, 5)", y.least(0, 5), 0);
        c.dueRow(y, "the first placing of all", 5, 0, 1, 2, 3, 4, 5);
        DrumWords z = Check.drumOf("d9 j302 n000 n800");
        c.due("an unused WORD comes ahead", z.least(2, 0), 5);
        c.dueRow(z, "PLACES", 0, 3, 0, 4);
        DrumWords stopped = Check.drumOf("d6 n000 n599");
        stopped.step();
        c.due("it has STOPPED", stopped.least(12, 0), 0);
        c.dueRow(stopped, "PLACES", 0, 0, 1);
    }

    private static void leastFromNowOn(Check c) {
        DrumWords x = Check.drumOf("d6 a021 s120 n350");
        x.step();
        c.due("a STORE is due at BEAT 6", x.least(1, 0), 4);
        c.dueRow(x, "1 can't lie where 0 lies", 0, 0, 1, 2);
        x.undo(0);
        x.move(0, 4);
        c.due("WORD 0 stays where it is now", x.least(1, 0), 8);
        c.dueRow(x, "PLACES", 0, 4, 0, 5);
    }

    private static void clerk(Check c) {
        DrumWords x = Check.drumOf(PAIR);
        c.due("clerk(1, 4)", x.clerk(1, 4), 4);
        c.dueRow(x, "PLACES", 4, 0, 1);
        DrumWords y = Check.drumOf(LOOP);
        c.due("clerk(6, 2)", y.clerk(6, 2), 27);
        c.dueRow(y, "PLACES", 2, 0, 4, 2, 6, 1, 5);
        c.due("clerk(0, 2)", y.clerk(0, 2), 0);
        c.dueRow(y, "who was not used", 2, 0, 1, 2, 3, 4, 5);
        c.due("clerk(2, 2)", y.clerk(2, 2), 9);
        c.dueRow(y, "who was not used, by numbers", 2, 0, 4, 2, 3, 1, 5);
        c.dueAsked(y, "the DRUM stays", y.word(1, 1), 1);
        y.step();
        c.due("from now on", y.clerk(1, 2), 5);
        c.dueRow(y, "PLACES", 2, 0, 6, 1, 2, 3, 7);
        DrumWords taken = Check.drumOf("d6 j001 j102 j203 j304 j405 n500");
        c.due("one behind the other", taken.clerk(12, 0), 6);
        c.dueRow(taken, "PLACES", 0, 0, 1, 2, 3, 4, 5);
        DrumWords moved = Check.drumOf("d6 a010 n250");
        moved.move(0, 5);
        c.due("WORD 0 lies where it is now", moved.clerk(1, 0), 9);
        c.dueRow(moved, "PLACES", 0, 5, 0);
        DrumWords stopped = Check.drumOf("d6 n000 n599");
        stopped.step();
        c.due("it has STOPPED", stopped.clerk(12, 0), 0);
        c.dueRow(stopped, "PLACES", 0, 0, 1);
    }

    private static void refused(Check c) {
        DrumWords none = new DrumWords();
        DrumWords x = Check.drumOf(LOOP);
        int[] wrong = {-1, 41, Integer.MIN_VALUE, Integer.MAX_VALUE};
        for (int n : wrong) {
            c.due("place(0, " + n + ")", x.place(0, n), BAD);
            c.due("place(" + n + ", 0)", x.place(n, 0), BAD);
            c.due("best(" + n + ")", x.best(n), BAD);
            c.due("least(" + n + ", 0)", x.least(n, 0), BAD);
            c.due("least(0, " + n + ")", x.least(0, n), BAD);
            c.due("clerk(" + n + ", 0)", x.clerk(n, 0), BAD);
            c.due("clerk(0, " + n + ")", x.clerk(0, n), BAD);
            c.due("BAD ahead of STATE, best()", none.best(n), BAD);
            c.due("BAD ahead of STATE, least()", none.least(n, 0), BAD);
            c.due("BAD ahead of STATE, clerk()", none.clerk(0, n), BAD);
        }
        c.due("place(6, 0)", x.place(6, 0), BAD);
        c.due("least(13, 0)", x.least(13, 0), BAD);
        c.due("least(0, 6)", x.least(0, 6), BAD);
        c.due("clerk(13, 0)", x.clerk(13, 0), BAD);
        c.due("clerk(0, 6)", x.clerk(0, 6), BAD);
        c.due("no ROW came", x.count(8), 0);
        c.due("place() without WORDS", none.place(0, 0), BAD);
        c.due("best() without WORDS", none.best(40), STATE);
        c.due("least() without WORDS", none.least(12, 5), STATE);
        c.due("clerk() without WORDS", none.clerk(12, 5), STATE);
        c.due("no ROW came", none.count(8), 0);
    }
}
