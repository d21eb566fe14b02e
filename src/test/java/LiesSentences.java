/** The sentences of promises 30 to 32: lies, kinds, watch. */
final class LiesSentences {
    private static final int BAD = Sentences.BAD;
    private static final int NOTHING = Sentences.NOTHING, UNLIKE = Sentences.UNLIKE;
    private static final int SIZE = Sentences.SIZE;
    private static final int MOST = Sentences.MOST, LEAST = Sentences.LEAST;
    private static final String[] BOTH = {"lies", "kinds"};
    /** WORD 3 is READ in STEP 13. */
    private static final String SLOW = "d9 a021 e130 n209 n300";

    private LiesSentences() {
    }

    static void tryAll(Sentences s) {
        promise30Places(s);
        promise30FreeOrItsOwn(s);
        for (int k = 0; k < 2; k++) {
            promises30And31Bad(s, 30 + k, BOTH[k]);
            promises30And31Nothing(s, 30 + k, BOTH[k]);
            promises30And31Size(s, 30 + k, BOTH[k]);
            promises30And31Unlike(s, 30 + k, BOTH[k]);
            promises30And31InThisOrder(s, 30 + k, BOTH[k]);
        }
        promise31Kinds(s);
        promise31ANumberMadeAnotherOne(s);
        promise31OneMadeANumber(s);
        promise32TheNumberOfSteps(s);
        promise32FreeOrItsOwn(s);
        promise32TheFirst(s);
        promise32Bad(s);
    }

    private static void lies(Sentences s, int want, String text, int i, int... beats) {
        s.from(() -> Drums.withRow(text, beats)).aside(want, "lies", i, 0);
    }

    private static void kinds(Sentences s, int want, String text, int i, int... beats) {
        s.from(() -> Drums.withRow(text, beats)).aside(want, "kinds", i, 0);
    }

    private static void promise30Places(Sentences s) {
        s.about(30, "PLACES (bits; free ones, or its own) at which a WORD can lie by these.");
        lies(s, 1 << 1, Drums.PAIR, 1, 4);
        lies(s, 1 << 3, Drums.PAIR, 1, 6);
        lies(s, 1 << 5, Drums.PAIR, 1, 8);
        lies(s, 0, Drums.PAIR, 1, 3);
        lies(s, 0, Drums.PAIR, 1, 9);
        lies(s, 1 << 1, Drums.PAIR, 1, 4, 10);
        lies(s, 0, Drums.PAIR, 1, 4, 9);
        lies(s, 1 | 2 | 4, Drums.PAIR, 0, 6);
        lies(s, 1 << 3, Drums.PAIR, 1, 6, 12, 18, 24, 30, 36);
        lies(s, 0, Drums.PAIR, 1, 0);
        lies(s, 0, Drums.PAIR, 1, 999);
        lies(s, 1 << 4, Drums.TO_A_NUMBER, 1, 1, 5);
        lies(s, 0, Drums.TO_A_NUMBER, 1, 1, 5, 5);
        lies(s, 0x1FE, Drums.TO_A_NUMBER, 1, 1);
        s.from(Drums::stopped).gives(0, "lies", 0, 3);
        DrumWords x = Check.drumOf("d6 j001 n100");
        Check.lay(x, 0, 0, 0, -1);
        x.least(0, 0);
        s.due("numbers that were behind a ROW's places, before it came anew", x.lies(0, 0), 0);
    }

    private static void promise30FreeOrItsOwn(Sentences s) {
        s.about(30, "free ones, or its own");
        lies(s, 1 << 5, Drums.CROWDED, 5, 1, 2, 3, 4, 5, 6);
        lies(s, 1 << 5, Drums.CROWDED, 5, 1);
        lies(s, 1 << 0, Drums.CROWDED, 0, 1);
        lies(s, 0, Drums.CROWDED, 0, 2);
        lies(s, 0, "d9 n000 n100", 0, 2);
        lies(s, 1 << 2, "d9 n000 n100", 0, 3);
        lies(s, 1 << 8, "d9 n000 n100", 0, 9);
    }

    private static void promises30And31Bad(Sentences s, int promise, String name) {
        s.about(promise, "BAD");
        s.from(Drums::rich);
        for (int wrong : new int[] {-1, 6, MOST, LEAST}) {
            s.refuses(BAD, name, wrong, 3);
            s.refuses(BAD, name, 0, wrong);
        }
        s.refuses(BAD, name, 6, 6);
        s.from(() -> Drums.withRow(Drums.PAIR, 6)).refuses(BAD, name, 2, 0);
        s.from(Drums::wordless).refuses(BAD, name, 0, 3);
    }

    private static void promises30And31Nothing(Sentences s, int promise, String name) {
        s.about(promise, "NOTHING");
        s.from(Drums::rich).finds(NOTHING, name, 0, 4);
        s.finds(NOTHING, name, 5, 5);
    }

    private static void promises30And31Size(Sentences s, int promise, String name) {
        s.about(promise, promise == 30 ? "SIZE: none, more than 6" : "SIZE");
        s.from(() -> Drums.withRow(Drums.PAIR)).finds(SIZE, name, 0, 0);
        s.from(() -> Drums.withRow(Drums.PAIR, 1, 2, 3, 4, 5, 6, 7)).finds(SIZE, name, 0, 0);
        s.from(() -> Drums.withRow(Drums.PAIR, 1, 2, 3, 4, 5, 6)).aside(0, name, 0, 0);
        s.from(() -> Drums.withRow(Drums.PAIR, 0)).aside(0, name, 0, 0);
        s.from(Drums::rich).finds(SIZE, name, 0, 1);
        s.finds(SIZE, name, 0, 2);
    }

    private static void promises30And31Unlike(Sentences s, int promise, String name) {
        s.about(promise, "UNLIKE");
        int[][] wrong = {{-1}, {1000}, {LEAST}, {MOST}, {-1, 6}, {6, 1000}, {1, 2, 3, 4, 5, -1},
            {1000, 2, 3, 4, 5, 6}, {999, 0, 1000, 0, 999, 0}};
        for (int[] numbers : wrong) {
            s.from(() -> Drums.withRow(Drums.PAIR, numbers)).finds(UNLIKE, name, 0, 0);
        }
        s.from(() -> Drums.withRow(Drums.PAIR, 999, 0, 999, 0, 999, 0)).aside(0, name, 0, 0);
    }

    private static void promises30And31InThisOrder(Sentences s, int promise, String name) {
        s.about(promise, "(In this order.)");
        s.from(Drums::rich).refuses(BAD, name, 6, 4);
        s.refuses(BAD, name, -1, 1);
        s.refuses(BAD, name, 6, 2);
        s.from(() -> Drums.withRow(Drums.PAIR, -1)).refuses(BAD, name, 2, 0);
        s.from(() -> Drums.withRow(Drums.PAIR, -1, 2, 3, 4, 5, 6, 1000)).finds(SIZE, name, 0, 0);
        s.refuses(BAD, name, 2, 0);
    }

    private static void promise31Kinds(Sentences s) {
        s.about(31, "KINDS (bits) that it can be of by these (a NUMBER made another one has WITH, NEXT"
            + " 0, one made a NUMBER its VALUE as it is).");
        kinds(s, 1 | 4, Drums.PAIR, 0, 1);
        kinds(s, 32, Drums.PAIR, 0, 2);
        kinds(s, 8, Drums.PAIR, 0, 5);
        kinds(s, 2, Drums.PAIR, 0, 6);
        kinds(s, 16, Drums.PAIR, 0, 11);
        kinds(s, 0, Drums.PAIR, 0, 0);
        kinds(s, 0, Drums.PAIR, 0, 999);
        kinds(s, 63, Drums.PAIR, 1, 6);
        kinds(s, 4, Drums.PAIR, 0, 1, 7);
        kinds(s, 2, Drums.PAIR, 0, 6, 12, 18, 24, 30, 36);
        kinds(s, 0, Drums.TO_A_NUMBER, 1, 1, 5, 5);
        s.from(Drums::stopped).gives(0, "kinds", 1, 3);
    }

    private static void promise31ANumberMadeAnotherOne(Sentences s) {
        s.about(31, "a NUMBER made another one has WITH, NEXT 0");
        String text = "d6 j501 n237 n400";
        kinds(s, 1 | 4, text, 1, 6, 9);
        kinds(s, 32, text, 1, 6, 10);
        kinds(s, 8, text, 1, 6, 13);
        kinds(s, 2 | 16, text, 1, 6, 14);
        kinds(s, 4, text, 1, 6, 9, 12);
        kinds(s, 8, text, 1, 6, 13, 18);
        DrumWords x = Drums.withRow(text, 6, 16);
        x.value(0, 20);
        s.due("TIMES with WORD 0, whose VALUE is 20", x.kinds(1, 0), 16);
    }

    private static void promise31OneMadeANumber(Sentences s) {
        s.about(31, "one made a NUMBER its VALUE as it is");
        DrumWords x = Drums.withRow("d9 t011 a110", 7, 11);
        x.value(1, 30);
        s.due("TIMES 30, then a NUMBER, a JUMP", x.kinds(1, 0), 1 | 4);
        DrumWords nought = Drums.withRow("d9 t011 a110", 4, 11);
        s.due("TIMES 0, then a NUMBER, a JUMP", nought.kinds(1, 0), 1 | 4);
    }

    private static void promise32TheNumberOfSteps(Sentences s) {
        s.about(32, "The number of STEPS (1 .. 12) by whose beats the PLACES at which a WORD can lie"
            + " (free ones, or its own) are told apart best: the greatest part of those alike is least"
            + " (the first); that part by asked().");
        s.from(Drums.PAIR).asks(1, 1, "watch", 1);
        s.asks(1, 3, "watch", 0);
        s.leaves("watch", 1);
        s.from("d9 j001 n800").asks(2, 1, "watch", 1);
        s.from("d9 j001 j102 j203 n300").asks(4, 1, "watch", 3);
        s.from(() -> Drums.withSteps(SLOW, 1)).asks(12, 1, "watch", 3);
        s.from(SLOW).asks(1, 6, "watch", 3);
    }

    private static void promise32FreeOrItsOwn(Sentences s) {
        s.about(32, "free ones, or its own");
        s.from(Drums.CROWDED).asks(1, 1, "watch", 5);
        s.asks(1, 1, "watch", 0);
        s.from("d6 n000 n100 n200 n300 n400").asks(1, 2, "watch", 4);
        s.from("d9 n000 n100").asks(1, 8, "watch", 1);
        s.from(Drums::stopped).asks(1, 8, "watch", 0);
    }

    private static void promise32TheFirst(Sentences s) {
        s.about(32, "(the first)");
        s.from("d9 n000 n100").asks(1, 1, "watch", 0);
        s.from("d9 j001 n800").asks(2, 1, "watch", 1);
        s.from("d9 n000 n100").asks(1, 8, "watch", 1);
        DrumWords x = Check.drumOf(Drums.LOOP);
        x.takes(40);
        Check.tell(x, 0, "d9 n000 n100");
        x.drum(0);
        s.due("it STOPS ahead, no more STEPS are done", x.watch(1), 1);
        s.due("that part", x.asked(), 8);
    }

    private static void promise32Bad(Sentences s) {
        s.about(32, "BAD");
        s.from(Drums::rich).refuses(BAD, "watch", -1);
        s.refuses(BAD, "watch", 6);
        s.refuses(BAD, "watch", MOST);
        s.refuses(BAD, "watch", LEAST);
        s.from(Drums.PAIR).refuses(BAD, "watch", 2);
        s.from(Drums::wordless).refuses(BAD, "watch", 0);
    }
}
