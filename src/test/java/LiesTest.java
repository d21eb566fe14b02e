/** Promises 30 to 32: lies, kinds, watch. */
public final class LiesTest {
    private static final int NOTHING = 1, UNLIKE = 3, SIZE = 5, BAD = DrumWords.BAD;
    private static final String PAIR = "d6 a010 n350";
    private static final String LOOP = "d8 a041 t152 e213 s640 n307 n712";

    public static void main(String[] args) {
        Check c = new Check("LiesTest");
        lies(c);
        liesStopped(c);
        kinds(c);
        kindsOfNumbers(c);
        refused(c);
        watch(c);
        c.end();
    }

    private static void lies(Check c) {
        DrumWords x = Check.drumOf(PAIR);
        long before = x.digest();
        Check.lay(x, 1, 6);
        c.due("0, 1, 2 are alike", x.lies(0, 1), 1 | 2 | 4);
        c.due("the NUMBER lies at 3", x.lies(1, 1), 8);
        Check.lay(x, 1, 5);
        c.due("the NUMBER lies at 2", x.lies(1, 1), 4);
        Check.lay(x, 1, 4, 10);
        c.due("two STEPS, the beats from now", x.lies(1, 1), 2);
        Check.lay(x, 1, 4, 6);
        c.due("not the beats of each", x.lies(1, 1), 0);
        Check.lay(x, 1, 999);
        c.due("nowhere", x.lies(1, 1), 0);
        x.tear(1);
        c.due("it is aside", x.digest(), before);
        DrumWords y = Check.drumOf(LOOP);
        Check.lay(y, 2, 6, 19, 28, 43, 52, 61);
        c.due("six STEPS", y.lies(0, 2), 1);
        Check.lay(y, 2, 6, 19);
        c.due("PLACES of others do not count", y.lies(1, 2), 2 | 16 | 32);
        y.step();
        Check.lay(y, 2, 13);
        c.due("from now on", y.lies(1, 2), 2 | 16 | 32);
    }

    private static void liesStopped(Check c) {
        DrumWords x = Check.drumOf("d9 j011 n400");
        Check.lay(x, 0, 1, 5);
        c.due("two STEPS", x.lies(1, 0), 16);
        Check.lay(x, 0, 1, 5, 5);
        c.due("a third one was not done", x.lies(1, 0), 0);
        c.due("a third one, by KINDS", x.kinds(1, 0), 0);
        x.step();
        x.step();
        Check.lay(x, 0, 0);
        c.due("none was done", x.lies(0, 0), 0);
        c.due("none was done, by KINDS", x.kinds(0, 0), 0);
    }

    private static void kinds(Check c) {
        DrumWords x = Check.drumOf("d6 a012 n350 j411");
        long before = x.digest();
        Check.lay(x, 0, 1);
        c.due("a NUMBER, a JUMP", x.kinds(0, 0), 1 | 4);
        Check.lay(x, 0, 2);
        c.due("a TEST", x.kinds(0, 0), 32);
        Check.lay(x, 0, 5);
        c.due("a STORE", x.kinds(0, 0), 8);
        Check.lay(x, 0, 6);
        c.due("an ADD", x.kinds(0, 0), 2);
        Check.lay(x, 0, 11);
        c.due("TIMES 50", x.kinds(0, 0), 16);
        c.due("a WORD that is not used", x.kinds(2, 0), 0);
        Check.lay(x, 0, 1, 5);
        c.due("a JUMP on to 2", x.kinds(0, 0), 4);
        x.tear(0);
        c.due("it is aside", x.digest(), before);
        DrumWords y = Check.drumOf(LOOP);
        Check.lay(y, 0, 6, 19);
        c.due("any KIND", y.kinds(5, 0), 63);
    }

    private static void kindsOfNumbers(Check c) {
        DrumWords x = Check.drumOf("d6 j501 n237 n400");
        Check.lay(x, 0, 6, 9);
        c.due("a NUMBER, a JUMP", x.kinds(1, 0), 1 | 4);
        Check.lay(x, 0, 6, 14);
        c.due("with WORD 0 it is an ADD, or TIMES", x.kinds(1, 0), 2 | 16);
        Check.lay(x, 0, 6, 9, 12);
        c.due("NEXT is WORD 0", x.kinds(1, 0), 4);
        x.value(0, 20);
        Check.lay(x, 0, 6, 16);
        c.due("TIMES VALUE of WORD 0", x.kinds(1, 0), 16);
        DrumWords y = Check.drumOf("d6 a011 a310");
        y.value(1, 77);
        Check.lay(y, 0, 6, 10);
        c.due("one made a NUMBER", y.kinds(1, 0), 1 | 4);
    }

    private static void refused(Check c) {
        DrumWords none = new DrumWords();
        c.due("lies() without WORDS", none.lies(0, 0), BAD);
        c.due("kinds() without WORDS", none.kinds(0, 0), BAD);
        c.due("no finding yet", none.finding(), 0);
        DrumWords x = Check.drumOf(PAIR);
        for (int wrong : new int[] {-1, 6, Integer.MAX_VALUE}) {
            c.due("lies(0, " + wrong + ")", x.lies(0, wrong), BAD);
            c.due("lies(" + wrong + ", 0)", x.lies(wrong, 0), BAD);
            c.due("kinds(0, " + wrong + ")", x.kinds(0, wrong), BAD);
            c.due("kinds(" + wrong + ", 0)", x.kinds(wrong, 0), BAD);
        }
        c.due("lies(2, 0)", x.lies(2, 0), BAD);
        c.due("kinds(2, 0)", x.kinds(2, 0), BAD);
        c.due("no finding yet", x.finding(), 0);
        refusedRows(c, x);
    }

    private static void refusedRows(Check c, DrumWords x) {
        c.dueFinding(x, "lies(), missing", x.lies(0, 3), NOTHING);
        c.dueFinding(x, "kinds(), missing", x.kinds(0, 3), NOTHING);
        x.row(3, 0);
        c.dueFinding(x, "lies(), of none", x.lies(0, 3), SIZE);
        c.dueFinding(x, "kinds(), of none", x.kinds(0, 3), SIZE);
        Check.lay(x, 3, 1, 2, 3, 4, 5, 6, -7);
        c.dueFinding(x, "lies(), SIZE ahead of UNLIKE", x.lies(0, 3), SIZE);
        c.dueFinding(x, "kinds(), SIZE ahead of UNLIKE", x.kinds(0, 3), SIZE);
        Check.lay(x, 3, 1, 2, 3, 4, 5, 1000);
        c.dueFinding(x, "lies(), the last one", x.lies(0, 3), UNLIKE);
        c.dueFinding(x, "kinds(), the last one", x.kinds(0, 3), UNLIKE);
        Check.lay(x, 3, -1, 2);
        c.dueFinding(x, "lies(), the first one", x.lies(0, 3), UNLIKE);
        c.dueFinding(x, "kinds(), the first one", x.kinds(0, 3), UNLIKE);
        Check.lay(x, 3, 0, 999);
        c.due("lies(), they are numbers", x.lies(0, 3), 0);
        c.due("kinds(), they are numbers", x.kinds(0, 3), 0);
    }

    private static void watch(Check c) {
        DrumWords x = Check.drumOf(PAIR);
        long before = x.digest();
        c.dueAsked(x, "each PLACE of the NUMBER takes its own time", x.watch(1), 1, 1);
        c.dueAsked(x, "those of the ADD are told apart no better later", x.watch(0), 1, 3);
        c.due("it is aside", x.digest(), before);
        DrumWords y = Check.drumOf(LOOP);
        c.dueAsked(y, "seven STEPS", y.watch(0), 7, 1);
        c.dueAsked(y, "one STEP", y.watch(3), 1, 3);
        DrumWords stopped = Check.drumOf("d9 n000 n599");
        c.dueAsked(stopped, "one that is READ", stopped.watch(0), 1, 1);
        c.dueAsked(stopped, "one that is not", stopped.watch(1), 1, 8);
        stopped.step();
        c.dueAsked(stopped, "it has STOPPED", stopped.watch(0), 1, 8);
        DrumWords late = Check.drumOf("d6 j001 j102 j203 j304 j405 n500");
        c.dueAsked(late, "no PLACE is free", late.watch(5), 1, 1);
        DrumWords chain = Check.drumOf("d9 j001 j102 j203 n300");
        c.dueAsked(chain, "it is READ last", chain.watch(3), 4, 1);
        DrumWords slow = Check.drumOf("d9 a021 e130 n209 n300");
        c.dueAsked(slow, "it is READ in STEP 13", slow.watch(3), 1, 6);
        slow.step();
        c.dueAsked(slow, "it is READ in STEP 12", slow.watch(3), 12, 1);
        c.due("watch(2)", x.watch(2), BAD);
        c.due("watch(-1)", x.watch(-1), BAD);
        c.due("watch(6)", y.watch(6), BAD);
        c.due("without WORDS", new DrumWords().watch(0), BAD);
        c.due("asked() stays", x.asked(), 3);
    }
}
