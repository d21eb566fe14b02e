/** Promises 1 to 7: a new object, row, lay, at, tear, copy, mean. */
public final class RowsTest {
    private static final int NOTHING = 1, BEYOND = 2, NOUGHT = 4, SIZE = 5;

    public static void main(String[] args) {
        Check c = new Check("RowsTest");
        newObject(c);
        row(c);
        layAndAt(c);
        tear(c);
        copy(c);
        copyRefused(c);
        mean(c);
        c.end();
    }

    private static void newObject(Check c) {
        DrumWords x = new DrumWords();
        int[] counts = {0, 0, 0, 0, 0, DrumWords.NONE, 0, 0, 0, 0, 0};
        for (int what = 0; what < counts.length; what++) {
            c.due("new, count(" + what + ")", x.count(what), counts[what]);
        }
        for (int r = 0; r < 6; r++) {
            c.dueFinding(x, "new, tear(" + r + ")", x.tear(r), NOTHING);
        }
        for (int t = 0; t < 4; t++) {
            c.dueFinding(x, "new, fault(" + t + ")", x.fault(t), NOTHING);
        }
        for (int k = 0; k < 3; k++) {
            c.dueFinding(x, "new, on(" + k + ")", x.on(k), NOTHING);
        }
    }

    private static void row(Check c) {
        DrumWords x = new DrumWords();
        c.due("row(0, 0)", x.row(0, 0), 0);
        c.due("row(5, 40)", x.row(5, 40), 40);
        c.due("count(8)", x.count(8), 2);
        c.due("row(5, 41)", x.row(5, 41), DrumWords.BAD);
        c.due("row(-1, 1)", x.row(-1, 1), DrumWords.BAD);
        c.due("row(6, 1)", x.row(6, 1), DrumWords.BAD);
        c.due("row(6, -1): BAD ahead of SIZE", x.row(6, -1), DrumWords.BAD);
        c.due("no finding yet", x.finding(), 0);
        c.dueFinding(x, "row(5, -1)", x.row(5, -1), SIZE);
        c.dueFinding(x, "row(5, least)", x.row(5, Integer.MIN_VALUE), SIZE);
        c.dueAsked(x, "a refused row() changes nothing", x.at(5, 39), 0);
        x.lay(5, 39, 7);
        c.due("row(5, 40) anew", x.row(5, 40), 40);
        c.dueAsked(x, "anew it holds 0", x.at(5, 39), 0);
        x.row(5, 3);
        c.dueFinding(x, "a ROW made smaller", x.at(5, 3), BEYOND);
    }

    private static void layAndAt(Check c) {
        DrumWords x = new DrumWords();
        c.dueFinding(x, "lay in a missing ROW", x.lay(2, 0, 1), NOTHING);
        c.dueFinding(x, "at in a missing ROW", x.at(2, 0), NOTHING);
        c.dueFinding(x, "NOTHING ahead of BEYOND", x.at(2, -1), NOTHING);
        x.row(2, 3);
        c.dueAsked(x, "lay(2, 2, 77)", x.lay(2, 2, 77), 0);
        c.dueAsked(x, "lay(2, 2, least)", x.lay(2, 2, Integer.MIN_VALUE), 77);
        c.dueAsked(x, "at(2, 2)", x.at(2, 2), Integer.MIN_VALUE);
        c.dueAsked(x, "at(2, 0)", x.at(2, 0), 0);
        c.dueFinding(x, "lay(2, 3, 1)", x.lay(2, 3, 1), BEYOND);
        c.dueFinding(x, "lay(2, -1, 1)", x.lay(2, -1, 1), BEYOND);
        c.dueFinding(x, "at(2, 3)", x.at(2, 3), BEYOND);
        c.dueFinding(x, "at(2, most)", x.at(2, Integer.MAX_VALUE), BEYOND);
        c.due("lay(6, 0, 1)", x.lay(6, 0, 1), DrumWords.BAD);
        c.due("lay(-1, 0, 1)", x.lay(-1, 0, 1), DrumWords.BAD);
        c.due("at(6, 0)", x.at(6, 0), DrumWords.BAD);
        c.due("at(-1, 0)", x.at(-1, 0), DrumWords.BAD);
        c.due("asked() stays", x.asked(), 0);
    }

    private static void tear(Check c) {
        DrumWords x = new DrumWords();
        x.row(4, 0);
        c.due("tear(4)", x.tear(4), 1);
        c.due("count(8)", x.count(8), 0);
        c.dueFinding(x, "tear(4) again", x.tear(4), NOTHING);
        c.due("tear(6)", x.tear(6), DrumWords.BAD);
        c.due("tear(-1)", x.tear(-1), DrumWords.BAD);
    }

    private static void copy(Check c) {
        DrumWords x = new DrumWords();
        Check.lay(x, 0, 1, 2, 3, 4, 5);
        Check.lay(x, 1, 9, 9, 9);
        c.due("copy(0, 3, 1, 0, 2)", x.copy(0, 3, 1, 0, 2), 1);
        c.dueRow(x, "to another ROW", 1, 4, 5, 9);
        c.due("copy(0, 0, 0, 1, 4)", x.copy(0, 0, 0, 1, 4), 1);
        c.dueRow(x, "onwards in itself, as if taken ahead", 0, 1, 1, 2, 3, 4);
        c.due("copy(0, 2, 0, 0, 3)", x.copy(0, 2, 0, 0, 3), 1);
        c.dueRow(x, "backwards in itself", 0, 2, 3, 4, 3, 4);
        c.due("copy(0, 5, 1, 3, 0)", x.copy(0, 5, 1, 3, 0), 1);
        c.due("copy(0, 0, 1, 0, 3)", x.copy(0, 0, 1, 0, 3), 1);
        c.dueRow(x, "a whole ROW", 1, 2, 3, 4);
    }

    private static void copyRefused(Check c) {
        DrumWords x = new DrumWords();
        x.row(0, 5);
        x.row(1, 3);
        int most = Integer.MAX_VALUE;
        c.due("copy(6, 0, 0, 0, -1)", x.copy(6, 0, 0, 0, -1), DrumWords.BAD);
        c.due("copy(0, 0, -1, 0, 1)", x.copy(0, 0, -1, 0, 1), DrumWords.BAD);
        c.due("copy(0, 0, 6, 0, 1)", x.copy(0, 0, 6, 0, 1), DrumWords.BAD);
        c.due("no finding yet", x.finding(), 0);
        c.dueFinding(x, "SIZE", x.copy(0, 0, 1, 0, -1), SIZE);
        c.dueFinding(x, "SIZE ahead of NOTHING", x.copy(2, 0, 1, 0, -1), SIZE);
        c.dueFinding(x, "the first one missing", x.copy(2, 9, 1, 0, 1), NOTHING);
        c.dueFinding(x, "the second one missing", x.copy(0, 9, 2, 0, 1), NOTHING);
        c.dueFinding(x, "too many from", x.copy(0, 3, 1, 0, 3), BEYOND);
        c.dueFinding(x, "too many to", x.copy(0, 0, 1, 1, 3), BEYOND);
        c.dueFinding(x, "from below 0", x.copy(0, -1, 1, 0, 1), BEYOND);
        c.dueFinding(x, "to below 0", x.copy(0, 0, 1, -1, 1), BEYOND);
        c.dueFinding(x, "none from beyond", x.copy(0, 6, 1, 0, 0), BEYOND);
        c.dueFinding(x, "none to beyond", x.copy(0, 0, 1, 4, 0), BEYOND);
        c.dueFinding(x, "more than an int holds", x.copy(0, most, 1, most, most), BEYOND);
    }

    private static void mean(Check c) {
        DrumWords x = new DrumWords();
        Check.lay(x, 0, 3, 4, 4);
        c.dueAsked(x, "11 by 3", x.mean(0), 3);
        Check.lay(x, 0, -3, -4, -4);
        c.dueAsked(x, "-11 by 3, cut", x.mean(0), -3);
        int most = Integer.MAX_VALUE;
        Check.lay(x, 0, most, most, most);
        c.dueAsked(x, "the greatest ones", x.mean(0), most);
        int least = Integer.MIN_VALUE;
        Check.lay(x, 0, least, least);
        c.dueAsked(x, "the least ones", x.mean(0), least);
        x.row(0, 40);
        x.lay(0, 39, 80);
        x.lay(0, 0, 40);
        c.dueAsked(x, "120 by 40", x.mean(0), 3);
        c.due("mean(6)", x.mean(6), DrumWords.BAD);
        c.due("mean(-1)", x.mean(-1), DrumWords.BAD);
        c.dueFinding(x, "a missing one", x.mean(1), NOTHING);
        x.row(1, 0);
        c.dueFinding(x, "one of none", x.mean(1), NOUGHT);
        c.due("asked() stays", x.asked(), 3);
    }
}
