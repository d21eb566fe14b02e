/** The sentences of promises 26 to 29: place, best, least, clerk. */
final class PlacingsSentences {
    private static final int BAD = Sentences.BAD, STATE = Sentences.STATE;
    private static final int MOST = Sentences.MOST, LEAST = Sentences.LEAST;
    /** From one to the next; WORD 1 has just gone by WORD 2, when it is READ. */
    private static final String GONE_BY = "d9 j001 j502 n400";
    /** At BEAT 6, behind TIMES 20, PLACES 0 and 1 are taken. */
    private static final String TWENTY = "d6 t021 n300 n120";

    private PlacingsSentences() {
    }

    static void tryAll(Sentences s) {
        promise26FewestBeats(s);
        promise26TheLeastNumber(s);
        promise26ItsOwnOneCounts(s);
        promise26Bad(s);
        promise27WhichTwo(s);
        promise27TheFirst(s);
        promise27NoneNoTwo(s);
        s.refusesByHowMany(27, "best", 40);
        promise28TheFewestBeats(s);
        promise28TheFirstPlacing(s);
        promise29AsClerksPlace(s);
        promise29NotUsed(s);
        String[] names = {"least", "clerk"};
        for (int k = 0; k < 2; k++) {
            promises28And29ARowAnew(s, 28 + k, names[k]);
            promises28And29Bad(s, 28 + k, names[k]);
            promises28And29StateNoWords(s, 28 + k, names[k]);
        }
    }

    private static int[] row(int... numbers) {
        return numbers;
    }

    private static void promise26FewestBeats(Sentences s) {
        s.about(26, "The free PLACE to which to move a WORD so that n (0 .. 40) STEPS take fewest beats"
            + " (of like ones the least number; its own one counts, too); how many by asked().");
        s.from(Drums.PAIR).asks(1, 4, "place", 1, 1);
        s.asks(1, 10, "place", 1, 2);
        s.asks(1, 4 + 38 * 6, "place", 1, 39);
        s.asks(1, 4 + 39 * 6, "place", 1, 40);
        s.asks(1, 0, "place", 1, 0);
        s.leaves("place", 1, 40);
        s.from("d9 n800 n100").asks(0, 1, "place", 0, 1);
        s.from("d9 n800 n000").asks(1, 2, "place", 0, 1);
        s.from("d9 j801 n700").asks(0, 8, "place", 0, 2);
        s.from(() -> Drums.withSteps(Drums.TO_A_NUMBER, 1)).asks(1, 1, "place", 1, 1);
        s.from(Drums::stopped).asks(0, 0, "place", 0, 40);
    }

    private static void promise26TheLeastNumber(Sentences s) {
        s.about(26, "of like ones the least number");
        s.from(GONE_BY).asks(1, 5, "place", 1, 3);
        s.from("d9 j001 j502 n400 n100").asks(2, 5, "place", 1, 3);
        s.from("d9 n300 n000").asks(1, 0, "place", 0, 0);
        s.from("d9 n000 n800").asks(1, 1, "place", 1, 40);
        s.from("d9 n000 n100").asks(1, 1, "place", 1, 40);
    }

    private static void promise26ItsOwnOneCounts(Sentences s) {
        s.about(26, "its own one counts, too");
        s.from("d9 j001 j102 n400").asks(1, 5, "place", 1, 3);
        s.from("d9 j001 j302 n400").asks(1, 5, "place", 1, 3);
        s.from("d9 j001 j302 n400 n100 n200").asks(3, 5, "place", 1, 3);
        s.from("d9 n000 n100").asks(0, 1, "place", 0, 1);
        s.from(Drums.CROWDED);
        for (int i = 0; i < 6; i++) {
            s.asks(i, 6, "place", i, 40);
        }
    }

    private static void promise26Bad(Sentences s) {
        s.about(26, "BAD");
        s.from(Drums::rich).refuses(BAD, "place", 0, -1);
        s.refuses(BAD, "place", 0, 41);
        s.refuses(BAD, "place", 0, MOST);
        s.refuses(BAD, "place", 0, LEAST);
        s.refuses(BAD, "place", -1, 0);
        s.refuses(BAD, "place", 6, 0);
        s.refuses(BAD, "place", MOST, MOST);
        s.gives(0, "place", 5, 0);
        s.from(Drums.PAIR).refuses(BAD, "place", 2, 0);
        s.from(Drums::wordless).refuses(BAD, "place", 0, 0);
        s.from(DrumWords::new).refuses(BAD, "place", 0, 0);
    }

    private static void promise27WhichTwo(Sentences s) {
        s.about(27, "Which two WORDS to change round so that n (0 .. 40) STEPS take fewest beats (10"
            + " times the lesser number and the other one; the first); how many then by asked().");
        s.from("d6 a310 n050").asks(1, 6, "best", 1);
        s.asks(1, 240, "best", 40);
        s.asks(1, 234, "best", 39);
        s.leaves("best", 40);
        s.from("d9 j004 n500 n600 n700 n800 n100").asks(45, 2, "best", 2);
        s.from("d9 j005 n500 n600 n700 n100 n800").asks(45, 2, "best", 2);
        s.from("d9 n500 n800 n700 n600 n000 n100").asks(4, 1, "best", 1);
        s.from("d9 n500 n800 n700 n600 n100 n000").asks(5, 1, "best", 40);
        s.from("d9 n500 n000 n700 n600 n100 n800").asks(1, 1, "best", 1);
        s.from(() -> Drums.withSteps("d9 j001 n800 n100", 1)).asks(12, 1, "best", 1);
    }

    private static void promise27TheFirst(Sentences s) {
        s.about(27, "the first");
        s.from("d9 j001 j502 n400 n100 n200").asks(13, 5, "best", 3);
        s.from("d9 j001 j502 n400 n200 n100").asks(13, 5, "best", 3);
        s.from("d9 j001 j502 n400 n800 n100 n200").asks(14, 5, "best", 3);
    }

    private static void promise27NoneNoTwo(Sentences s) {
        s.about(27, "NONE: no two make it less.");
        s.from(Drums.PAIR).none("best", 1);
        s.none("best", 40);
        s.none("best", 0);
        s.from("d9 n000 n800").none("best", 1);
        s.from(Drums.CROWDED).none("best", 40);
        s.from(Drums::stopped).none("best", 40);
        s.from(Drums::rich).none("best", 0);
    }

    private static void promise28TheFewestBeats(Sentences s) {
        s.about(28, "The fewest beats of n (0 .. 12) STEPS, if all WORDS but WORD 0 may lie anywhere"
            + " (one at a PLACE)");
        s.from(Drums.PAIR).lays(0, row(0, 1), "least", 0, 2);
        s.lays(4, row(0, 1), "least", 1, 2);
        s.lays(4 + 10 * 6, row(0, 1), "least", 11, 2);
        s.lays(4 + 11 * 6, row(0, 1), "least", 12, 2);
        s.from("d9 n800 n000").lays(9, row(8, 0), "least", 12, 2);
        s.from(TWENTY).lays(8, row(0, 1, 2), "least", 2, 2);
        // twice round: 4 beats, then WORD 0 comes at 8, 16; at 1 WORD 1 would cost a turn each time
        s.from("d8 j002 e320 s510").lays(17, row(0, 2, 1), "least", 5, 2);
        s.from("d6 n501 n000 n100 n200 n300 n400").lays(6, row(5, 0, 1, 2, 3, 4), "least", 12, 2);
        s.from("d6 j505 n400 n300 n200 n100 n000").lays(7, row(5, 1, 2, 3, 4, 0), "least", 12, 2);
        s.from(() -> Drums.withSteps(Drums.TO_A_NUMBER, 1)).lays(1, row(0, 1), "least", 12, 2);
        s.from(Drums::stopped).lays(0, row(0, 1), "least", 12, 2);
    }

    private static void promise28TheFirstPlacing(Sentences s) {
        s.about(28, "PLACES of all WORDS by the first such placing (rising by WORDS)");
        s.from("d6 j001 j500").lays(7, row(0, 1), "least", 3, 2);
        s.from("d6 j002 j100 j501").lays(7, row(0, 2, 1), "least", 4, 2);
        s.from("d9 j302 n000 n800").lays(5, row(3, 0, 4), "least", 2, 2);
        s.from("d9 n300 n800 n700 n600 n500 n400").lays(4, row(3, 0, 1, 2, 4, 5), "least", 12, 2);
        s.from("d9 n300 n800 n700").lays(0, row(3, 0, 1), "least", 0, 2);
        s.from(Drums.LOOP).lays(27, row(0, 4, 2, 5, 1, 6), "least", 6, 2);
        // WORD 2 may lie at 4, 5, 6, or at 0, just ahead of WORD 0
        s.from("d7 s112 n200 j300").lays(11, row(1, 2, 0), "least", 3, 2);
        // WORDS 2 and 3 are READ in the turn ahead of WORD 1, and may lie behind it all the same
        s.from("d9 e012 j800 a730 n650").lays(20, row(0, 2, 3, 4), "least", 5, 2);
    }

    private static void promises28And29ARowAnew(Sentences s, int promise, String name) {
        s.about(promise, (promise == 28 ? "" : "PLACES of all WORDS ") + "come to a ROW (anew)");
        s.from(Drums::stopped).lays(0, row(0, 1), name, 1, 0);
        s.lays(0, row(0, 1), name, 1, 1);
        s.lays(0, row(0, 1), name, 1, 2);
        s.lays(0, row(0, 1), name, 1, 5);
        DrumWords x = Drums.rich();
        DrumWords same = Drums.rich();
        int beats = promise == 28 ? x.least(12, 5) : x.clerk(12, 5);
        s.due(name + "(12, 5) is not refused", beats > 0 ? 1 : 0, 1);
        s.due("a ROW more", x.count(8), 5);
        s.due("asked() stays", x.asked(), same.asked());
        x.tear(5);
        s.dueSame(x, same, name + "(12, 5), but for the ROW,", true);
    }

    private static void promises28And29Bad(Sentences s, int promise, String name) {
        s.about(promise, "BAD");
        s.from(Drums::rich);
        for (int n : new int[] {-1, 13, MOST, LEAST}) {
            s.refuses(BAD, name, n, 0);
        }
        for (int r : new int[] {-1, 6, MOST, LEAST}) {
            s.refuses(BAD, name, 0, r);
        }
        s.refuses(BAD, name, 13, 6);
        s.from(Drums::wordless).refuses(BAD, name, 13, 0);
        s.refuses(BAD, name, -1, 0);
        s.refuses(BAD, name, 0, 6);
        s.refuses(BAD, name, 0, -1);
    }

    private static void promises28And29StateNoWords(Sentences s, int promise, String name) {
        s.about(promise, "STATE: no WORDS.");
        s.from(Drums::wordless).refuses(STATE, name, 0, 0);
        s.refuses(STATE, name, 12, 5);
        s.from(DrumWords::new).refuses(STATE, name, 0, 0);
    }

    private static void promise29AsClerksPlace(Sentences s) {
        s.about(29, "As clerks place: all WORDS but WORD 0 off the drum at first; n (0 .. 12) STEPS are"
            + " gone through, and each WORD that has to be READ and does not lie yet is laid at that"
            + " free PLACE which comes under the head first");
        s.from(Drums.PAIR).lays(4, row(0, 1), "clerk", 1, 2);
        s.lays(4 + 11 * 6, row(0, 1), "clerk", 12, 2);
        s.lays(4 + 10 * 6, row(0, 1), "clerk", 11, 2);
        s.from(GONE_BY).lays(3, row(0, 1, 2), "clerk", 3, 2);
        s.from("d9 a321 n000 n100").lays(8, row(3, 7, 4), "clerk", 2, 2);
        s.from("d6 a521 n000 n100").lays(10, row(5, 3, 0), "clerk", 2, 2);
        s.from(TWENTY).lays(9, row(0, 2, 1), "clerk", 2, 2);
        s.from("d6 j001 j100").lays(8, row(0, 1), "clerk", 4, 2);
        s.from("d6 j505 n400 n300 n200 n100 n000").lays(7, row(5, 1, 2, 3, 4, 0), "clerk", 12, 2);
        s.from(() -> Drums.withSteps("d9 a321 n000 n100", 1)).lays(1, row(3, 4, 0), "clerk", 1, 2);
        s.from(Drums::stopped).lays(0, row(0, 1), "clerk", 12, 2);
    }

    private static void promise29NotUsed(Sentences s) {
        s.about(29, "who was not used lies at the free PLACES, lesser ones first, by numbers: how many"
            + " beats they take");
        s.from("d9 a321 n000 n100").lays(7, row(3, 0, 4), "clerk", 1, 2);
        s.lays(0, row(3, 0, 1), "clerk", 0, 2);
        s.from("d9 n300 n800 n700 n600 n500 n400").lays(4, row(3, 0, 1, 2, 4, 5), "clerk", 12, 2);
        s.from("d9 a051 n100 n200 n300 n400 n599").lays(4, row(0, 2, 3, 4, 5, 1), "clerk", 1, 2);
        DrumWords x = Check.drumOf("d9 a321 n000 n100");
        x.clerk(2, 0);
        s.due("fewer STEPS than were gone through ahead", x.clerk(1, 0), 7);
        s.holds(x, "PLACES", 0, 3, 0, 4);
        // WITH of a JUMP, and of a TEST whose NEXT is due, is not READ
        s.from("d9 j012 n800 n700").lays(2, row(0, 2, 1), "clerk", 12, 2);
        s.from("d9 e012 n800 n700").lays(3, row(0, 1, 2), "clerk", 12, 2);
    }
}
