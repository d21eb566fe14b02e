/** The sentences of promises 22 to 25: takes, idle, stops, when. */
final class StepsSentences {
    private static final int BAD = Sentences.BAD, STATE = Sentences.STATE, NONE = Sentences.NONE;
    private static final int MOST = Sentences.MOST, LEAST = Sentences.LEAST;
    /** Adds 2 until the SUM is 50, then STOPS: behind 51 STEPS. */
    private static final String COUNTER = "d9 a021 e130 n202 n300";
    /** Adds and stores: WORD 3 is 1, 2, .. behind 2, 4, .. STEPS, in 14, 32, .. beats. */
    private static final String TALLY = "d9 a021 s130 n201 n300";

    private StepsSentences() {
    }

    static void tryAll(Sentences s) {
        promise22HowManyBeats(s);
        s.refusesByHowMany(22, "takes", 40);
        promise23AreWaited(s);
        promise23TheShare(s);
        s.refusesByHowMany(23, "idle", 40);
        promise24BehindHowMany(s);
        promise24NoneNotByThen(s);
        promise24StateNoWords(s);
        promise25BehindHowMany(s);
        promise25NoneNotByThen(s);
        promise25Bad(s);
    }

    private static void promise22HowManyBeats(Sentences s) {
        s.about(22, "How many beats n (0 .. 40) STEPS take from now on; the SUM then by asked().");
        s.from(Drums.PAIR).asks(0, 0, "takes", 0);
        s.asks(6, 50, "takes", 1);
        s.asks(12, 0, "takes", 2);
        s.asks(234, 50, "takes", 39);
        s.asks(240, 0, "takes", 40);
        s.leaves("takes", 40);
        s.from(() -> Drums.withSteps(Drums.PAIR, 1)).asks(0, 50, "takes", 0);
        s.asks(6, 0, "takes", 1);
        s.from(() -> Drums.withSteps(Drums.PAIR, 40)).asks(240, 0, "takes", 40);
        s.from(Drums.TO_A_NUMBER).asks(1, 0, "takes", 1);
        s.asks(5, 0, "takes", 2);
        s.asks(5, 0, "takes", 3);
        s.from(Drums::stopped).asks(0, 0, "takes", 40);
        s.from("d9 t810 n799").asks(28 + 39 * 27, 0, "takes", 40);
        DrumWords x = Check.drumOf("d9 e001 a321 n450");
        s.due("a TEST, an ADD", x.takes(2), 2 + 5);
        x.step();
        s.due("the ADD alone", x.takes(1), 5);
        s.due("as often as asked", x.takes(1), 5);
    }

    private static void promise23AreWaited(Sentences s) {
        s.about(23, "How many of these beats are waited (nothing being READ, no WORK)");
        s.from(Drums.PAIR).gives(0, "idle", 0);
        s.gives(2, "idle", 1);
        s.gives(4, "idle", 2);
        s.gives(80, "idle", 40);
        s.leaves("idle", 40);
        s.from("d9 j001 j102 n200").gives(0, "idle", 40);
        s.from("d9 j000 n100").gives(8, "idle", 2);
        s.from("d9 t810 n799").gives(8 + 7, "idle", 1);
        s.from("d9 s810 n799").gives(8 + 7, "idle", 1);
        s.from("d9 e810 n799").gives(8, "idle", 1);
        s.from("d9 n800 n799").gives(8, "idle", 1);
        s.from(() -> Drums.withSteps(Drums.TO_A_NUMBER, 1)).gives(3, "idle", 1);
        s.from(Drums::stopped).gives(0, "idle", 40);
    }

    private static void promise23TheShare(Sentences s) {
        s.about(23, "the share of these of all of them by upper(), lower() (0 by 1, if there are none).");
        s.from(Drums.PAIR).shares(0, 0, 1, "idle", 0);
        s.shares(2, 1, 3, "idle", 1);
        s.shares(80, 1, 3, "idle", 40);
        s.from(Drums.TO_A_NUMBER).shares(0, 0, 1, "idle", 1);
        s.shares(3, 3, 5, "idle", 2);
        s.shares(3, 3, 5, "idle", 40);
        s.from("d9 n800 n799").shares(8, 8, 9, "idle", 1);
        s.from(Drums::stopped).shares(0, 0, 1, "idle", 40);
    }

    private static void promise24BehindHowMany(Sentences s) {
        s.about(24, "Behind how many STEPS (0 .. 40) it has STOPPED");
        s.from(Drums::stopped).aside(0, "stops");
        s.from("d6 n000 n100").aside(1, "stops");
        s.from(Drums.TO_A_NUMBER).aside(2, "stops");
        s.from(Drums.CROWDED).aside(6, "stops");
        s.from(() -> Drums.withSteps(COUNTER, 12)).gives(39, "stops");
        s.from(() -> Drums.withSteps(COUNTER, 11)).gives(40, "stops");
        s.from(() -> Drums.withSteps(COUNTER, 40)).gives(11, "stops");
    }

    private static void promise24NoneNotByThen(Sentences s) {
        s.about(24, "NONE: not by then.");
        s.from(() -> Drums.withSteps(COUNTER, 10)).none("stops");
        s.from(COUNTER).none("stops");
        s.from(Drums::rich).none("stops");
    }

    private static void promise24StateNoWords(Sentences s) {
        s.about(24, "STATE: no WORDS.");
        s.from(Drums::wordless).refuses(STATE, "stops");
        s.from(DrumWords::new).refuses(STATE, "stops");
    }

    private static void promise25BehindHowMany(Sentences s) {
        s.about(25, "Behind how many STEPS (0 .. 40) VALUE of a WORD is v (0 .. 99) or more first; in"
            + " how many beats by asked().");
        s.from(TALLY).asks(0, 0, "when", 3, 0);
        s.asks(2, 14, "when", 3, 1);
        s.asks(4, 32, "when", 3, 2);
        s.asks(38, 14 + 18 * 18, "when", 3, 19);
        s.asks(40, 14 + 19 * 18, "when", 3, 20);
        s.asks(0, 0, "when", 2, 1);
        s.leaves("when", 3, 20);
        s.from(() -> Drums.withSteps(TALLY, 1)).asks(1, 9, "when", 3, 1);
        s.asks(39, 9 + 19 * 18, "when", 3, 20);
        s.from(() -> Drums.withSteps(TALLY, 2)).asks(0, 0, "when", 3, 1);
        s.asks(40, 20 * 18, "when", 3, 21);
        s.from("d9 a021 s130 n260 n300").asks(2, 14, "when", 3, 59);
        s.asks(2, 14, "when", 3, 60);
        s.asks(6, 14 + 2 * 18, "when", 3, 80);
        s.from("d9 n099 n100").asks(0, 0, "when", 0, 99);
        s.asks(0, 0, "when", 1, 0);
        s.from(Drums::stopped).asks(0, 0, "when", 0, 0);
    }

    private static void promise25NoneNotByThen(Sentences s) {
        s.about(25, "NONE: not by then.");
        s.from(TALLY).none("when", 3, 21);
        s.none("when", 3, 99);
        s.none("when", 2, 2);
        s.from(() -> Drums.withSteps(TALLY, 1)).none("when", 3, 21);
        s.from(Drums.TO_A_NUMBER).none("when", 1, 1);
        s.from(Drums::stopped).none("when", 1, 1);
        s.from("d9 n098 n100").none("when", 0, 99);
        s.from(Drums::rich).none("when", 0, 1);
    }

    private static void promise25Bad(Sentences s) {
        s.about(25, "BAD");
        s.from(Drums::rich).refuses(BAD, "when", 0, -1);
        s.refuses(BAD, "when", 0, 100);
        s.refuses(BAD, "when", 0, MOST);
        s.refuses(BAD, "when", 0, LEAST);
        s.refuses(BAD, "when", -1, 0);
        s.refuses(BAD, "when", 6, 0);
        s.refuses(BAD, "when", MOST, LEAST);
        s.gives(0, "when", 5, 0);
        s.from(Drums.PAIR).refuses(BAD, "when", 2, 0);
        s.from(Drums::wordless).refuses(BAD, "when", 0, 0);
    }
}
