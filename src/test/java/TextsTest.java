/** Promises 8 to 11: text, put, fault, drum. */
public final class TextsTest {
    private static final int NOTHING = 1, BEYOND = 2, SIZE = 5, NONE = DrumWords.NONE;

    public static void main(String[] args) {
        Check c = new Check("TextsTest");
        text(c);
        put(c);
        faultRefused(c);
        faultsOfTheHead(c);
        faultsOfWords(c);
        faultsAtTheEnd(c);
        noFaults(c);
        drum(c);
        drumAnew(c);
        c.end();
    }

    private static void text(Check c) {
        DrumWords x = new DrumWords();
        c.due("text(0, 0)", x.text(0, 0), 0);
        c.due("text(3, 60)", x.text(3, 60), 60);
        c.due("count(9)", x.count(9), 2);
        c.due("it is blank", x.put(3, 59, 5), 1032);
        c.due("text(3, 60) anew", x.text(3, 60), 60);
        c.due("it is blank anew", x.put(3, 59, 5), 1032);
        c.due("text(3, 61)", x.text(3, 61), DrumWords.BAD);
        c.due("text(4, 1)", x.text(4, 1), DrumWords.BAD);
        c.due("text(-1, -1)", x.text(-1, -1), DrumWords.BAD);
        c.due("no finding yet", x.finding(), 0);
        c.dueFinding(x, "text(3, -1)", x.text(3, -1), SIZE);
        c.due("a refused text() changes nothing", x.put(3, 59, 5), 1005);
    }

    private static void put(Check c) {
        DrumWords x = new DrumWords();
        c.dueFinding(x, "a missing TEXT", x.put(1, -1, 7), NOTHING);
        x.text(1, 2);
        c.due("put(1, 0, 127)", x.put(1, 0, 127), 1032);
        c.due("put(1, 0, 128)", x.put(1, 0, 128), 1127);
        c.due("128 is cut to -128", x.put(1, 0, 255), 1000 - 128);
        c.due("255 is cut to -1", x.put(1, 0, 256 + 65), 999);
        c.due("321 is cut to 65", x.put(1, 0, -1), 1065);
        c.dueFinding(x, "put(1, 2, 0)", x.put(1, 2, 0), BEYOND);
        c.dueFinding(x, "put(1, -1, 0)", x.put(1, -1, 0), BEYOND);
        c.due("put(4, 0, 0)", x.put(4, 0, 0), DrumWords.BAD);
        c.due("put(-1, 0, 0)", x.put(-1, 0, 0), DrumWords.BAD);
    }

    private static void faultRefused(Check c) {
        DrumWords x = new DrumWords();
        c.due("fault(4)", x.fault(4), DrumWords.BAD);
        c.due("fault(-1)", x.fault(-1), DrumWords.BAD);
        c.due("no finding yet", x.finding(), 0);
        c.dueFinding(x, "fault(3)", x.fault(3), NOTHING);
    }

    private static void fault(Check c, String text, int want) {
        DrumWords x = new DrumWords();
        Check.tell(x, 2, text);
        c.due("fault of '" + text + "'", x.fault(2), want);
        c.due("drum of '" + text + "'", x.drum(2) == DrumWords.STATE ? 1 : 0, want == NONE ? 0 : 1);
    }

    private static void faultsOfTheHead(Check c) {
        fault(c, "", 0);
        fault(c, "    ", 4);
        fault(c, "  x", 2);
        fault(c, "D6n000n111", 0);
        fault(c, "n000n111", 0);
        fault(c, "d", 1);
        fault(c, "  d", 3);
        fault(c, "d ", 1);
        fault(c, "d 6n000n111", 1);
        fault(c, "d5n000n111", 1);
        fault(c, "d:n000n111", 1);
        fault(c, "d6", 2);
        fault(c, "d6  ", 4);
        fault(c, "d66", 2);
        fault(c, "\344d6n000n111", 0);
    }

    private static void faultsOfWords(Check c) {
        fault(c, "d6x000n111", 2);
        fault(c, "d6N000n111", 2);
        fault(c, "d6d6n000n111", 2);
        fault(c, "d6n600n111", 3);
        fault(c, "d9n900n111", 3);
        fault(c, "d6n 000n111", 3);
        fault(c, "d6n0 00n111", 4);
        fault(c, "d6n00 0n111", 5);
        fault(c, "d6n0a0n111", 4);
        fault(c, "d6n00/n111", 5);
        fault(c, "d6n0:0n111", 4);
        fault(c, "d6n00:n111", 5);
        fault(c, "d6n000n011", 7);
        fault(c, "d6n000 n011", 8);
        fault(c, "d6a060n111", 4);
        fault(c, "d6a006n111", 5);
        fault(c, "d6a00 0n111", 5);
        fault(c, "d6j0/0n111", 4);
        fault(c, "d9n000n100n200n300n400n500n600", 26);
        fault(c, "d9n000n100n200n300n400n500  x", 28);
    }

    private static void faultsAtTheEnd(Check c) {
        fault(c, "d6n", 3);
        fault(c, "d6n0", 4);
        fault(c, "d6n00", 5);
        fault(c, "d6n000", 6);
        fault(c, "d6n000   ", 9);
        fault(c, "d6n000a", 7);
        fault(c, "d6n000a1", 8);
        fault(c, "d6n000a10", 9);
        fault(c, "d6a020n100", 10);
        fault(c, "d6a002n100 ", 11);
        fault(c, "d6j030n100n200", 14);
        fault(c, "d6e005n100n200n300n400", 22);
        String ahead = " ".repeat(57);
        fault(c, ahead + "   ", 60);
        fault(c, ahead + "  d", 60);
        fault(c, ahead + " d6", 60);
        fault(c, ahead + "d6n", 60);
        fault(c, " ".repeat(56) + "d6n0", 60);
        fault(c, " ".repeat(55) + "d6n00", 60);
    }

    private static void noFaults(Check c) {
        fault(c, "d6n000n599", NONE);
        fault(c, "d9n800n799", NONE);
        fault(c, "   d7   a011    j110   ", NONE);
        fault(c, "d6a055j144s233t322e411n500", NONE);
        fault(c, " ".repeat(50) + "d6n000n100", NONE);
        fault(c, "d8 a041 t152 e213 s640 n307 n712                            ", NONE);
    }

    private static void drum(Check c) {
        DrumWords x = new DrumWords();
        c.due("drum(4)", x.drum(4), DrumWords.BAD);
        c.due("drum(-1)", x.drum(-1), DrumWords.BAD);
        c.due("no finding yet", x.finding(), 0);
        c.dueFinding(x, "drum(0)", x.drum(0), NOTHING);
        Check.tell(x, 0, "d7 a341 j210 s002 t633 e554 n417");
        c.due("six WORDS", x.drum(0), 6);
        int[][] words = {
            {1, 3, 0, 4, 1, 0}, {2, 2, 0, 1, 0, 0}, {3, 0, 0, 0, 2, 0},
            {4, 6, 0, 3, 3, 0}, {5, 5, 0, 5, 4, 0}, {0, 4, 17, NONE, NONE, 0}};
        for (int i = 0; i < words.length; i++) {
            for (int what = 0; what < 6; what++) {
                c.dueAsked(x, "word(" + i + ", " + what + ")", x.word(i, what), words[i][what]);
            }
        }
        int[] counts = {6, 7, 0, 0, 0, 0, 0, 3, 0, 1, 0};
        for (int what = 0; what < counts.length; what++) {
            c.due("count(" + what + ")", x.count(what), counts[what]);
        }
    }

    private static void drumAnew(Check c) {
        DrumWords x = Check.drumOf("d6a010n350");
        x.step();
        x.keep(0);
        x.keep(2);
        Check.tell(x, 1, "d6");
        c.due("a FAULT", x.drum(1), DrumWords.STATE);
        c.due("a refused drum() leaves the BEAT", x.count(3), 6);
        c.due("a refused drum() leaves kept DRUMS", x.count(10), 2);
        Check.tell(x, 1, "d9 n500 n600 n700");
        c.due("drum(1)", x.drum(1), 3);
        int[] counts = {3, 9, 0, 0, 0, 0, 0, 0, 0, 2, 0};
        for (int what = 0; what < counts.length; what++) {
            c.due("anew, count(" + what + ")", x.count(what), counts[what]);
        }
        c.dueFinding(x, "kept DRUMS go", x.on(0), NOTHING);
        c.dueFinding(x, "kept DRUMS go", x.on(2), NOTHING);
        c.dueAsked(x, "how often a STEP was done goes", x.word(0, 5), 0);
        c.due("nothing to undo", x.undo(1), DrumWords.BAD);
    }
}
