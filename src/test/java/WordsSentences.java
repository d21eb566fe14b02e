/** The sentences of promises 12 to 14: word, mark, waits. */
final class WordsSentences {
    private static final int BAD = Sentences.BAD, NONE = Sentences.NONE, UNLIKE = Sentences.UNLIKE;
    private static final int MOST = Sentences.MOST, LEAST = Sentences.LEAST;

    private WordsSentences() {
    }

    static void tryAll(Sentences s) {
        promise12OfAWord(s);
        promise12NoneOfANumber(s);
        promise12HowOften(s);
        promise12Bad(s);
        promise13AnAdd(s);
        promise13AJump(s);
        promise13AStore(s);
        promise13Times(s);
        promise13ATest(s);
        promise13BadAlsoKind0(s);
        promise13Unlike(s);
        promise14HowManyBeats(s);
        promise14Bad(s);
    }

    private static void promise12OfAWord(Sentences s) {
        s.about(12, "Of a WORD: 0 the KIND, 1 the PLACE, 2 VALUE, 3 WITH, 4 NEXT (NONE both of a"
            + " NUMBER), 5 how often its STEP was done, told by asked(): 1.");
        int[][] words = {
            {1, 8, 0, 1, 2, 0}, {2, 0, 0, 3, 4, 0}, {3, 7, 0, 5, 0, 0}, {4, 1, 0, 0, 5, 0},
            {5, 6, 0, 5, 5, 0}, {0, 2, 99, NONE, NONE, 0}};
        s.from("d9 a812 j034 s750 t105 e655 n299");
        for (int i = 0; i < 6; i++) {
            for (int what = 0; what <= 5; what++) {
                s.asks(1, words[i][what], "word", i, what);
            }
        }
        s.from(Drums::rich).asks(1, 6, "word", 0, 1);
        s.asks(1, 7, "word", 1, 1);
        s.asks(1, 66, "word", 4, 2);
        s.aside(1, "word", 5, 5);
    }

    private static void promise12NoneOfANumber(Sentences s) {
        s.about(12, "(NONE both of a NUMBER)");
        s.from("d6 n000 n199").asks(1, NONE, "word", 0, 3);
        s.asks(1, NONE, "word", 0, 4);
        s.asks(1, NONE, "word", 1, 3);
        s.asks(1, NONE, "word", 1, 4);
        s.from("d6 j000 n199").asks(1, 0, "word", 0, 3);
        s.asks(1, 0, "word", 0, 4);
    }

    private static void promise12HowOften(Sentences s) {
        s.about(12, "5 how often its STEP was done");
        DrumWords x = Check.drumOf("d9 j001 j100 n200");
        int[][] done = {{0, 0, 0}, {1, 0, 0}, {1, 1, 0}, {2, 1, 0}};
        for (int n = 0; n < done.length; n++) {
            for (int i = 0; i < 3; i++) {
                s.due("of " + i + " behind " + n, Drums.ofWord(x, i, 5), done[n][i]);
            }
            x.step();
        }
        DrumWords most = Drums.withSteps(Drums.PAIR, 40);
        s.due("as often as can be", Drums.ofWord(most, 0, 5), 40);
        s.due("WITH was not done", Drums.ofWord(most, 1, 5), 0);
        most.undo(39);
        s.due("one was undone", Drums.ofWord(most, 0, 5), 39);
        s.from(Drums::stopped).asks(1, 1, "word", 1, 5);
    }

    private static void promise12Bad(Sentences s) {
        s.about(12, "BAD");
        s.from(Drums::rich).refuses(BAD, "word", -1, 0);
        s.refuses(BAD, "word", 6, 0);
        s.refuses(BAD, "word", 0, -1);
        s.refuses(BAD, "word", 0, 6);
        s.refuses(BAD, "word", MOST, 0);
        s.refuses(BAD, "word", LEAST, LEAST);
        s.gives(1, "word", 5, 5);
        s.gives(1, "word", 0, 0);
        s.from(Drums.PAIR).refuses(BAD, "word", 2, 0);
        s.gives(1, "word", 1, 0);
        s.from(Drums::wordless).refuses(BAD, "word", 0, 0);
    }

    private static void promise13AnAdd(Sentences s) {
        s.about(13, "What a WORD that IS of a KIND tells: an ADD (STORE, TIMES, too) how many beats are"
            + " waited from when it was READ to READING its WITH");
        for (char letter : "ast".toCharArray()) {
            s.from("d9 " + letter + "310 n499").aside(0, "mark", 0, 1);
            s.from("d9 " + letter + "310 n599").gives(1, "mark", 0, 1);
            s.from("d9 " + letter + "310 n899").gives(4, "mark", 0, 1);
            s.from("d9 " + letter + "310 n099").gives(5, "mark", 0, 1);
            s.from("d9 " + letter + "310 n299").gives(7, "mark", 0, 1);
            s.from("d9 " + letter + "300 n299").gives(8, "mark", 0, 1);
            s.from("d9 " + letter + "810 n099").gives(0, "mark", 0, 1);
            s.from("d6 " + letter + "500 n099").gives(5, "mark", 0, 1);
        }
        s.from(Drums::rich).gives(4, "mark", 0, 1);
        s.gives(1, "mark", 1, 1);
        s.gives(5, "mark", 3, 1);
    }

    private static void promise13AJump(Sentences s) {
        s.about(13, "a JUMP (TEST, too) how many from that to READING its NEXT (WORKING aside)");
        for (char letter : "je".toCharArray()) {
            s.from("d9 " + letter + "301 n499").aside(0, "mark", 0, 2);
            s.from("d9 " + letter + "301 n599").gives(1, "mark", 0, 2);
            s.from("d9 " + letter + "301 n299").gives(7, "mark", 0, 2);
            s.from("d9 " + letter + "310 n499").gives(8, "mark", 0, 2);
            s.from("d9 " + letter + "801 n099").gives(0, "mark", 0, 2);
            s.from("d6 " + letter + "001 n599").gives(4, "mark", 0, 2);
        }
        DrumWords x = Check.drumOf("d9 a021 e312 n150");
        x.step();
        s.due("its NEXT, though the SUM is 50", x.mark(1, 2), 6);
    }

    /** mark() of a STORE on VALUE v, when an ADD made the SUM so much. */
    private static int markOfAStore(int sum, int v) {
        DrumWords x = Check.drumOf("d9 a021 s130 n200 n300");
        x.value(2, sum);
        x.value(3, v);
        x.step();
        return x.mark(1, 3);
    }

    private static void promise13AStore(Sentences s) {
        s.about(13, "a STORE 1, if what it would store now is another VALUE than there is, else 0");
        s.due("0 on 0", markOfAStore(0, 0), 0);
        s.due("0 on 1", markOfAStore(0, 1), 1);
        s.due("1 on 0", markOfAStore(1, 0), 1);
        s.due("99 on 99", markOfAStore(99, 99), 0);
        s.due("99 on 98", markOfAStore(99, 98), 1);
        s.due("98 on 99", markOfAStore(98, 99), 1);
        s.from("d6 s010 n100").aside(0, "mark", 0, 3);
        s.from("d6 s010 n101").aside(1, "mark", 0, 3);
    }

    private static int markOfTimes(int v) {
        DrumWords x = Check.drumOf("d9 t310 n800");
        x.value(1, v);
        return x.mark(0, 4);
    }

    private static void promise13Times(Sentences s) {
        s.about(13, "TIMES how many beats it WORKS now");
        s.due("times 0", markOfTimes(0), 2);
        s.due("times 9", markOfTimes(9), 2);
        s.due("times 10", markOfTimes(10), 3);
        s.due("times 89", markOfTimes(89), 10);
        s.due("times 90", markOfTimes(90), 11);
        s.due("times 99", markOfTimes(99), 11);
        s.from("d6 t010 n150").aside(7, "mark", 0, 4);
    }

    private static int markOfATest(int sum) {
        DrumWords x = Check.drumOf("d9 a041 e123 n300 n200 n400");
        x.value(4, sum);
        x.step();
        return x.mark(1, 5);
    }

    private static void promise13ATest(Sentences s) {
        s.about(13, "a TEST which WORD would be due behind it now");
        s.due("the SUM is 0", markOfATest(0), 3);
        s.due("the SUM is 49", markOfATest(49), 3);
        s.due("the SUM is 50", markOfATest(50), 2);
        s.due("the SUM is 99", markOfATest(99), 2);
        s.from("d6 e010 n100").aside(0, "mark", 0, 5);
        s.from("d6 e055 n100 n200 n300 n400 n500").gives(5, "mark", 0, 5);
    }

    private static void promise13BadAlsoKind0(Sentences s) {
        s.about(13, "BAD: also KIND 0");
        s.from(Drums::rich);
        for (int i = 0; i < 6; i++) {
            s.refuses(BAD, "mark", i, 0);
            s.refuses(BAD, "mark", i, -1);
            s.refuses(BAD, "mark", i, 6);
        }
        s.refuses(BAD, "mark", -1, 1);
        s.refuses(BAD, "mark", 6, 1);
        s.refuses(BAD, "mark", MOST, LEAST);
        s.refuses(BAD, "mark", LEAST, MOST);
        s.gives(2, "mark", 2, 2);
        s.from(Drums.PAIR).refuses(BAD, "mark", 2, 1);
        s.from(Drums::wordless).refuses(BAD, "mark", 0, 1);
    }

    private static void promise13Unlike(Sentences s) {
        s.about(13, "UNLIKE");
        s.from(Drums::rich);
        int[][] unlike = {{2, 3, 4, 5}, {2, 3, 5}, {1, 3, 4}, {2, 4, 5}, {1, 2, 3, 4, 5}, {1, 2, 3, 4, 5}};
        for (int i = 0; i < 6; i++) {
            for (int kind : unlike[i]) {
                s.finds(UNLIKE, "mark", i, kind);
            }
        }
        s.from("d6 j000 n100");
        for (int kind : new int[] {1, 3, 4, 5}) {
            s.finds(UNLIKE, "mark", 0, kind);
        }
    }

    private static void promise14HowManyBeats(Sentences s) {
        s.about(14, "How many beats are waited, if a WORD is READ, from BEAT b (0 .. 999) on (0: its"
            + " PLACE is under the head).");
        s.from("d9 n000 n800").aside(0, "waits", 0, 0);
        s.gives(8, "waits", 0, 1);
        s.gives(1, "waits", 0, 8);
        s.gives(0, "waits", 0, 9);
        s.gives(8, "waits", 1, 0);
        s.gives(0, "waits", 1, 8);
        s.gives(8, "waits", 1, 9);
        s.gives(0, "waits", 0, 999);
        s.gives(1, "waits", 0, 998);
        s.gives(8, "waits", 1, 999);
        s.gives(0, "waits", 1, 998);
        s.from("d7 n000 n500").gives(2, "waits", 0, 999);
        s.gives(0, "waits", 1, 999);
        s.from("d8 n000 n700").gives(0, "waits", 1, 999);
        s.from("d6 n000 n300").gives(0, "waits", 1, 999);
        s.from(Drums::rich).gives(6, "waits", 0, 0);
        s.gives(0, "waits", 0, 6);
    }

    private static void promise14Bad(Sentences s) {
        s.about(14, "BAD");
        s.from(Drums::rich).refuses(BAD, "waits", 0, -1);
        s.refuses(BAD, "waits", 0, 1000);
        s.refuses(BAD, "waits", 0, MOST);
        s.refuses(BAD, "waits", 0, LEAST);
        s.refuses(BAD, "waits", -1, 0);
        s.refuses(BAD, "waits", 6, 0);
        s.refuses(BAD, "waits", MOST, 0);
        s.gives(2, "waits", 5, 999);
        s.from(Drums.PAIR).refuses(BAD, "waits", 2, 0);
        s.from(Drums::wordless).refuses(BAD, "waits", 0, 0);
    }
}
