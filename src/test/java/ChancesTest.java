/** Promises 33 to 36: duel, odds, mid, lots. */
public final class ChancesTest {
    private static final int BAD = DrumWords.BAD, FULL = DrumWords.FULL, STATE = DrumWords.STATE;
    private static final int NONE = DrumWords.NONE;
    /** Each STEP takes 6 beats, 2 of them waited, with 2 READINGS. */
    private static final String PAIR = "d6 a010 n350";
    private static final String LOOP = "d8 a041 t152 e213 s640 n307 n712";

    public static void main(String[] args) {
        Check c = new Check("ChancesTest");
        duel(c);
        odds(c);
        oddsStopped(c);
        mid(c);
        chancesRefused(c);
        lots(c);
        lotsRefused(c);
        c.end();
    }

    private static void duel(Check c) {
        DrumWords x = Check.drumOf(PAIR);
        long before = x.digest();
        c.due("as it is", x.duel(0), 48);
        c.due("one who slows it", x.duel(1), 51);
        c.due("then one who hastens it", x.duel(2), 48);
        c.due("then the first one again", x.duel(3), 51);
        c.due("it is aside", x.digest(), before);
        DrumWords y = Check.drumOf(LOOP);
        c.due("duel(0)", y.duel(0), 83);
        c.due("duel(1)", y.duel(1), 92);
        c.due("duel(2)", y.duel(2), 63);
        DrumWords stopped = Check.drumOf("d6 n000 n599");
        stopped.step();
        c.due("it has STOPPED", stopped.duel(3), 0);
        c.due("duel(4)", x.duel(4), BAD);
        c.due("duel(-1)", x.duel(-1), BAD);
        c.due("BAD ahead of STATE", new DrumWords().duel(4), BAD);
        c.due("without WORDS", new DrumWords().duel(3), STATE);
    }

    private static void odds(Check c) {
        DrumWords x = Check.drumOf(PAIR);
        long before = x.digest();
        c.dueShare(x, "too few beats", x.odds(1, 5, 6), 1, Check.share(0, 1));
        c.dueShare(x, "none may miss", x.odds(1, 6, 6), 1, Check.share(1, 4));
        c.dueShare(x, "none may miss", x.odds(1, 11, 6), 1, Check.share(1, 4));
        c.dueShare(x, "one may miss", x.odds(1, 12, 6), 1, Check.share(3, 4));
        c.dueShare(x, "both may miss", x.odds(1, 18, 6), 1, Check.share(1, 1));
        c.dueShare(x, "none ever misses", x.odds(1, 6, 0), 1, Check.share(1, 1));
        c.dueShare(x, "all miss", x.odds(1, 17, 12), 1, Check.share(0, 1));
        c.dueShare(x, "all miss", x.odds(1, 18, 12), 1, Check.share(1, 1));
        c.dueShare(x, "all six miss", x.odds(3, 54, 12), 1, Check.share(1, 1));
        c.dueShare(x, "six READINGS", x.odds(3, 18, 1), 1, Check.share(1771561, 2985984));
        c.dueShare(x, "all but six misses", x.odds(3, 53, 1), 1, Check.share(2985983, 2985984));
        c.dueShare(x, "four READINGS, p 4", x.odds(2, 18, 4), 1, Check.share(16, 27));
        c.dueShare(x, "no STEPS", x.odds(0, 0, 7), 1, Check.share(1, 1));
        c.due("it is aside", x.digest(), before);
        c.due("it tells nothing by asked()", x.asked(), 0);
        x.step();
        c.dueShare(x, "from now on", x.odds(1, 6, 3), 1, Check.share(9, 16));
    }

    private static void oddsStopped(Check c) {
        DrumWords x = Check.drumOf("d9 j011 n400");
        c.dueShare(x, "two READINGS", x.odds(3, 5, 3), 1, Check.share(9, 16));
        c.dueShare(x, "a turn is 9 beats", x.odds(3, 13, 3), 1, Check.share(9, 16));
        c.dueShare(x, "a turn is 9 beats", x.odds(3, 14, 3), 1, Check.share(15, 16));
        x.step();
        x.step();
        c.dueShare(x, "it has STOPPED", x.odds(3, 0, 12), 1, Check.share(1, 1));
        c.dueShare(x, "its mean", x.mid(3, 12), 1, Check.share(0, 1));
    }

    private static void mid(Check c) {
        DrumWords x = Check.drumOf(PAIR);
        c.dueShare(x, "half of two", x.mid(1, 6), 1, Check.share(12, 1));
        c.dueShare(x, "a twelfth of two", x.mid(1, 1), 1, Check.share(7, 1));
        c.dueShare(x, "a twelfth of six", x.mid(3, 1), 1, Check.share(21, 1));
        c.dueShare(x, "none", x.mid(2, 0), 1, Check.share(12, 1));
        c.dueShare(x, "all", x.mid(2, 12), 1, Check.share(36, 1));
        c.dueShare(x, "no STEPS", x.mid(0, 5), 1, Check.share(0, 1));
        DrumWords y = Check.drumOf("d7 a010 n350");
        c.dueShare(y, "7 beats a turn", y.mid(1, 1), 1, Check.share(43, 6));
        DrumWords z = Check.drumOf("d7 e101 n200");
        c.dueShare(z, "a TEST", z.mid(1, 1), 1, Check.share(43, 12));
        c.due("it tells nothing by asked()", z.asked(), 0);
    }

    private static void chancesRefused(Check c) {
        DrumWords none = new DrumWords();
        DrumWords x = Check.drumOf(PAIR);
        x.mid(1, 1);
        int[][] wrong = {{-1, 0, 0}, {4, 0, 0}, {0, -1, 0}, {0, 1000, 0}, {0, 0, -1}, {0, 0, 13}};
        for (int[] w : wrong) {
            c.due("odds()", x.odds(w[0], w[1], w[2]), BAD);
            c.due("BAD ahead of STATE, odds()", none.odds(w[0], w[1], w[2]), BAD);
            if (w[1] == 0) {
                c.due("mid()", x.mid(w[0], w[2]), BAD);
                c.due("BAD ahead of STATE, mid()", none.mid(w[0], w[2]), BAD);
            }
        }
        c.due("odds() without WORDS", none.odds(3, 999, 12), STATE);
        c.due("mid() without WORDS", none.mid(3, 12), STATE);
        c.due("upper() stays", x.upper(), 7);
        c.due("lower() stays", x.lower(), 1);
        c.due("upper() before", none.upper(), 0);
        c.due("lower() before", none.lower(), 1);
    }

    /** From 1 the numbers are 48271 (a STEP), 182605794 (a change), 1291394886 (a change). */
    private static void lots(Check c) {
        DrumWords x = Check.drumOf("d6 a010 n350 n100");
        c.due("a STEP", x.lots(1, 1), 6);
        x.undo(0);
        c.due("a STEP, a change", x.lots(2, 1), 6);
        c.due("two DEEDS", x.count(2), 2);
        c.due("one STEP", x.count(6), 1);
        c.dueAsked(x, "the last one", x.word(2, 1), 0);
        c.dueAsked(x, "the one behind it is 0", x.word(0, 1), 1);
        c.dueAsked(x, "that one stays", x.word(1, 1), 3);
        c.due("they are DEEDS truly", x.undo(1), 1);
        c.dueAsked(x, "changed back", x.word(0, 1), 0);
        DrumWords stopped = Check.drumOf("d6 n000 n100");
        stopped.step();
        c.due("nothing is due: a change", stopped.lots(1, 1), 1);
        c.dueAsked(stopped, "it by 8 is 6033", stopped.word(0, 1), 1);
        c.due("nothing is due", stopped.count(5), NONE);
        DrumWords y = Check.drumOf(PAIR);
        c.due("the last seed", y.lots(20, 2147483646) > 0 ? 1 : 0, 1);
        c.due("20 DEEDS", y.count(2), 20);
        c.due("the first seed", y.lots(20, 1) > 0 ? 1 : 0, 1);
        c.due("40 DEEDS", y.count(2), 40);
    }

    private static void lotsRefused(Check c) {
        DrumWords none = new DrumWords();
        c.due("without WORDS", none.lots(1, 1), STATE);
        c.due("BAD ahead of STATE", none.lots(0, 1), BAD);
        DrumWords x = Check.drumOf(PAIR);
        for (int k = 0; k < 39; k++) {
            x.value(0, k);
        }
        long before = x.digest();
        c.due("41 DEEDS", x.lots(2, 1), FULL);
        c.due("BAD ahead of FULL, lots(21, 1)", x.lots(21, 1), BAD);
        c.due("lots(0, 1)", x.lots(0, 1), BAD);
        c.due("lots(-1, 1)", x.lots(-1, 1), BAD);
        c.due("lots(1, 0)", x.lots(1, 0), BAD);
        c.due("lots(1, -1)", x.lots(1, -1), BAD);
        c.due("lots(1, 2147483647)", x.lots(1, Integer.MAX_VALUE), BAD);
        c.due("nothing changed", x.digest(), before);
        c.due("40 DEEDS", x.lots(1, 1), 6);
        c.due("FULL", x.lots(1, 1), FULL);
    }
}
