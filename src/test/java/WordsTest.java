/** Promises 12 to 14: word, mark, waits. */
public final class WordsTest {
    private static final int UNLIKE = 3, BAD = DrumWords.BAD;
    /** Its STEPS take 6, 13, 9, 15, 9, 9 beats; the SUM is 7, 84, 84, 8, 8, 8 behind them. */
    private static final String LOOP = "d8 a041 t152 e213 s640 n307 n712";

    public static void main(String[] args) {
        Check c = new Check("WordsTest");
        word(c);
        markOfAdds(c);
        markOfJumps(c);
        markByTheSum(c);
        markRefused(c);
        waits(c);
        c.end();
    }

    private static void word(Check c) {
        DrumWords x = Check.drumOf(LOOP);
        for (int s = 0; s < 6; s++) {
            x.step();
        }
        int[] done = {1, 2, 2, 1, 0, 0};
        for (int i = 0; i < done.length; i++) {
            c.dueAsked(x, "word(" + i + ", 5)", x.word(i, 5), done[i]);
        }
        c.dueAsked(x, "what was stored", x.word(4, 2), 8);
        x.move(0, 5);
        c.dueAsked(x, "where it moved", x.word(0, 1), 5);
        c.due("word(-1, 0)", x.word(-1, 0), BAD);
        c.due("word(6, 0)", x.word(6, 0), BAD);
        c.due("word(0, -1)", x.word(0, -1), BAD);
        c.due("word(0, 6)", x.word(0, 6), BAD);
        c.due("asked() stays", x.asked(), 5);
        c.due("without WORDS", new DrumWords().word(0, 0), BAD);
    }

    private static void markOfAdds(Check c) {
        DrumWords x = Check.drumOf("d7 a010 n150");
        c.due("its WITH comes at once", x.mark(0, 1), 0);
        x.swap(0, 1);
        c.due("its WITH has just gone by", x.mark(0, 1), 5);
        DrumWords y = Check.drumOf("d9 s300 t411");
        c.due("a STORE with itself", y.mark(0, 1), 8);
        c.due("TIMES with itself", y.mark(1, 1), 8);
    }

    private static void markOfJumps(Check c) {
        DrumWords x = Check.drumOf("d6 j212 e520 n150");
        c.due("a JUMP tells of NEXT, not of WITH", x.mark(0, 2), 4);
        c.due("a TEST's WORK is aside", x.mark(1, 2), 2);
        DrumWords y = Check.drumOf("d6 a021 e503 n150 n300");
        y.step();
        c.due("the SUM is 50", y.count(4), 50);
        c.due("it is NEXT all the same", y.mark(1, 2), 3);
        DrumWords z = Check.drumOf("d6 j000 n100");
        c.due("a JUMP to itself", z.mark(0, 2), 5);
    }

    private static void markByTheSum(Check c) {
        DrumWords x = Check.drumOf(LOOP);
        c.due("0 would be stored on 7", x.mark(3, 3), 1);
        c.due("the SUM is 0: NEXT", x.mark(2, 5), 3);
        c.due("TIMES 12", x.mark(1, 4), 3);
        x.step();
        c.due("7 would be stored on 7", x.mark(3, 3), 0);
        c.due("the SUM is 7: NEXT", x.mark(2, 5), 3);
        x.step();
        c.due("84 would be stored on 7", x.mark(3, 3), 1);
        c.due("the SUM is 84: WITH", x.mark(2, 5), 1);
        x.value(5, 99);
        c.due("TIMES 99", x.mark(1, 4), 11);
        x.value(5, 9);
        c.due("TIMES 9", x.mark(1, 4), 2);
        DrumWords y = Check.drumOf("d6 a031 a342 e520 n149 n201");
        y.step();
        c.due("the SUM is 49: NEXT", y.mark(2, 5), 0);
        y.step();
        c.due("the SUM is 50: WITH", y.mark(2, 5), 2);
    }

    private static void markRefused(Check c) {
        DrumWords x = Check.drumOf("d9 n000 a111 j211 s311 t411 e511");
        boolean[][] is = {
            {false, false, false, false, false}, {true, false, false, false, false},
            {false, true, false, false, false}, {true, false, true, false, false},
            {true, false, false, true, false}, {false, true, false, false, true}};
        for (int i = 0; i < 6; i++) {
            for (int kind = 1; kind <= 5; kind++) {
                String call = "mark(" + i + ", " + kind + ")";
                int got = x.mark(i, kind);
                if (is[i][kind - 1]) {
                    c.due(call + " is told", got >= 0 ? 1 : 0, 1);
                } else {
                    c.dueFinding(x, call, got, UNLIKE);
                }
            }
        }
        c.due("findings(3)", x.findings(3), 22);
        c.due("mark(0, 0)", x.mark(0, 0), BAD);
        c.due("mark(1, 0)", x.mark(1, 0), BAD);
        c.due("mark(1, 6)", x.mark(1, 6), BAD);
        c.due("mark(1, -1)", x.mark(1, -1), BAD);
        c.due("mark(6, 1)", x.mark(6, 1), BAD);
        c.due("mark(-1, 1)", x.mark(-1, 1), BAD);
        c.due("without WORDS", new DrumWords().mark(0, 1), BAD);
    }

    private static void waits(Check c) {
        DrumWords x = Check.drumOf(LOOP);
        c.due("under the head", x.waits(0, 0), 0);
        c.due("just gone by", x.waits(0, 1), 7);
        c.due("waits(3, 0)", x.waits(3, 0), 6);
        c.due("waits(3, 999)", x.waits(3, 999), 7);
        c.due("waits(5, 999)", x.waits(5, 999), 0);
        c.due("waits(5, 998)", x.waits(5, 998), 1);
        c.due("waits(5, 1000)", x.waits(5, 1000), BAD);
        c.due("waits(5, -1)", x.waits(5, -1), BAD);
        c.due("waits(6, 0)", x.waits(6, 0), BAD);
        c.due("waits(-1, 0)", x.waits(-1, 0), BAD);
        c.due("without WORDS", new DrumWords().waits(0, 0), BAD);
    }
}
