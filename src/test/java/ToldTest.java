/** Promises 37 to 43: asked, upper, lower, count, finding, findings, digest; and the constants. */
public final class ToldTest {
    private static final int NONE = DrumWords.NONE;
    private static final String LOOP = "d8 a041 t152 e213 s640 n307 n712";

    public static void main(String[] args) {
        Check c = new Check("ToldTest");
        constants(c);
        asked(c);
        shares(c);
        count(c);
        findings(c);
        digest(c);
        c.end();
    }

    private static void constants(Check c) {
        c.due("BAD", DrumWords.BAD, -1);
        c.due("FULL", DrumWords.FULL, -2);
        c.due("FINDING", DrumWords.FINDING, -3);
        c.due("STATE", DrumWords.STATE, -4);
        c.due("SPENT", DrumWords.SPENT, -6);
        c.due("NONE", DrumWords.NONE, -9);
    }

    private static void asked(Check c) {
        c.due("before", new DrumWords().asked(), 0);
        DrumWords x = Check.drumOf(LOOP);
        c.due("put(), drum() tell nothing by it", x.asked(), 0);
        Check.lay(x, 0, 5, 6);
        c.dueAsked(x, "lay()", x.lay(0, 1, 9), 6);
        c.dueAsked(x, "at()", x.at(0, 0), 5);
        c.dueAsked(x, "mean()", x.mean(0), 7);
        c.dueAsked(x, "word()", x.word(4, 3), NONE);
        c.dueAsked(x, "takes()", x.takes(2), 19, 84);
        c.dueAsked(x, "when()", x.when(4, 8), 6, 61);
        c.dueAsked(x, "place()", x.place(1, 6), 4, 53);
        c.dueAsked(x, "best()", x.best(6), 25, 37);
        c.dueAsked(x, "watch()", x.watch(3), 1, 3);
        x.at(0, 2);
        x.mean(5);
        x.word(9, 0);
        x.takes(41);
        x.when(4, 99);
        x.best(0);
        x.watch(6);
        x.copy(0, 0, 0, 0, 1);
        x.mark(0, 1);
        x.waits(0, 5);
        x.idle(3);
        x.stops();
        x.least(3, 1);
        x.clerk(3, 1);
        x.duel(1);
        x.odds(1, 1, 1);
        x.mid(1, 1);
        x.step();
        x.move(0, 4);
        x.swap(0, 1);
        x.value(0, 1);
        x.lots(2, 2);
        x.undo(0);
        x.keep(0);
        x.on(0);
        x.count(0);
        x.digest();
        c.due("the refused, NONE, all others leave it", x.asked(), 3);
    }

    private static void shares(Check c) {
        DrumWords x = Check.drumOf(LOOP);
        c.due("upper() before", x.upper(), 0);
        c.due("lower() before", x.lower(), 1);
        c.dueShare(x, "odds()", x.odds(1, 6, 3), 1, Check.share(9, 16));
        x.idle(41);
        x.odds(9, 9, 9);
        x.mid(9, 9);
        x.takes(5);
        c.dueShare(x, "the refused leave it", x.mark(0, 1), 2, Check.share(9, 16));
        c.dueShare(x, "mid()", x.mid(1, 1), 1, Check.share(22, 3));
        c.dueShare(x, "idle()", x.idle(1), 2, Check.share(1, 3));
        x.drum(0);
        c.dueShare(x, "drum() leaves it", x.count(0), 6, Check.share(1, 3));
    }

    private static void count(Check c) {
        DrumWords x = Check.drumOf("d9 a521 t412 s303 e255 j100 n042");
        x.row(0, 1);
        x.row(5, 0);
        x.text(3, 0);
        x.step();
        x.step();
        x.swap(0, 1);
        x.keep(1);
        int[] wanted = {6, 9, 3, 34, 0, 2, 2, 3, 2, 2, 1};
        for (int what = 0; what < wanted.length; what++) {
            c.due("count(" + what + ")", x.count(what), wanted[what]);
        }
        c.due("count(11)", x.count(11), DrumWords.BAD);
        c.due("count(-1)", x.count(-1), DrumWords.BAD);
        x.tear(0);
        c.due("a ROW less", x.count(8), 1);
        x.undo(1);
        c.due("a STEP was undone", x.count(6), 1);
    }

    private static void findings(Check c) {
        DrumWords x = new DrumWords();
        c.due("before", x.finding(), 0);
        x.at(9, 0);
        x.step();
        c.due("BAD, STATE are none", x.finding(), 0);
        x.at(0, 0);
        c.due("NOTHING", x.finding(), 1);
        x.row(0, 0);
        x.at(0, 0);
        x.at(0, 1);
        c.due("BEYOND", x.finding(), 2);
        x.mean(0);
        c.due("NOUGHT", x.finding(), 4);
        x.row(0, -1);
        x.row(0, -1);
        x.row(0, -1);
        c.due("SIZE", x.finding(), 5);
        Check.tell(x, 0, LOOP);
        x.drum(0);
        x.mark(4, 1);
        c.due("UNLIKE", x.finding(), 3);
        x.row(0, 3);
        c.due("what is not refused leaves it", x.finding(), 3);
        int[] wanted = {1, 2, 1, 1, 3};
        for (int f = 1; f <= 5; f++) {
            c.due("findings(" + f + ")", x.findings(f), wanted[f - 1]);
        }
        c.due("findings(0)", x.findings(0), DrumWords.BAD);
        c.due("findings(6)", x.findings(6), DrumWords.BAD);
        c.due("findings(-1)", x.findings(-1), DrumWords.BAD);
    }

    private static long mixed(long h, long... numbers) {
        long mixed = h;
        for (long v : numbers) {
            mixed = 31 * mixed + v;
        }
        return mixed;
    }

    private static void digest(Check c) {
        DrumWords x = new DrumWords();
        long h = mixed(17, 0, 0, 0, 0, 0, NONE, 0, 0, 0, 0, 0);
        h = mixed(h, -1, -1, -1);
        h = mixed(h, -1, -1, -1, -1, -1, -1);
        h = mixed(h, -1, -1, -1, -1);
        c.due("without anything", x.digest(), h);
        Check.tell(x, 1, "d6a010n350");
        x.drum(1);
        x.put(1, 9, 200);
        x.text(3, 0);
        Check.lay(x, 2, 7, -8);
        x.row(4, 0);
        x.step();
        x.keep(0);
        x.value(0, 4);
        x.keep(2);
        x.takes(3);
        h = mixed(17, 2, 6, 2, 6, 50, 0, 1, 1, 2, 2, 2);
        h = mixed(h, 1, 0, 4, 1, 0, 1);
        h = mixed(h, 0, 3, 50, NONE, NONE, 0);
        h = mixed(h, 1, -1, 2);
        h = mixed(h, -1, -1, 2, 7, -8, -1, 0, -1);
        h = mixed(h, -1, 10, 100, 54, 97, 48, 49, 48, 110, 51, 53, 200 - 256, -1, 0);
        c.due("with all", x.digest(), h);
        c.due("it leaves asked()", x.asked(), 0);
    }
}
