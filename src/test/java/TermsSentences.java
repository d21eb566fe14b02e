/** The sentences of the document's terms, those of texts and faults aside. */
final class TermsSentences {
    private static final int BAD = Sentences.BAD, FULL = Sentences.FULL, STATE = Sentences.STATE;
    private static final int NONE = Sentences.NONE, FINDING = Sentences.FINDING;
    private static final int NOTHING = Sentences.NOTHING, BEYOND = Sentences.BEYOND;
    private static final int UNLIKE = Sentences.UNLIKE, NOUGHT = Sentences.NOUGHT;
    private static final int SIZE = Sentences.SIZE;
    private static final int TERMS = Doc.TERMS;

    private TermsSentences() {
    }

    static void tryAll(Sentences s) {
        atMost512Calls(s);
        theOrderOfRefusals(s);
        refusedChangesNothing(s);
        findingNothing(s);
        findingBeyond(s);
        findingUnlike(s);
        findingNought(s);
        findingSize(s);
        lowestTerms(s);
        setsByBits(s);
        rowsOf0To40(s);
        textsOf0To60(s);
        missingAtFirst(s);
        eachWordHasAValue(s);
        sumLeftOverBy100(s);
        stepOfANumber(s);
        stepOfAnAdd(s);
        stepOfAStore(s);
        stepOfTimes(s);
        stepOfAJump(s);
        stepOfATest(s);
        beat0AtFirst(s);
        placeUnderTheHead(s);
        readInTheFirstBeat(s);
        aStepReadsThenWorks(s);
        stopsBehindBeingRead(s);
        whatIsDone(s);
        deeds40AtMost(s);
        stepsToComeAreAside(s);
        placingsAreAside(s);
        rowsOf1To6Beats(s);
    }

    private static void atMost512Calls(Sentences s) {
        s.about(Doc.WHAT_IT_IS, "An object is used for at most 512 calls after it has been made");
        DrumWords x = new DrumWords();
        x.row(0, 1);
        for (int call = 2; call <= 511; call++) {
            x.lay(0, 0, call);
        }
        s.due("the 512th call", x.lay(0, 0, 1), 1);
    }

    private static void theOrderOfRefusals(Sentences s) {
        s.about(TERMS, "Refused is, the first of these that fits, in this order: BAD -1 (a number that"
            + " is none, or not as told), FULL -2, STATE -4 (not now), SPENT -6 (more than told),"
            + " FINDING -3 (finding() tells which), unless a call says so otherwise. NONE -9.");
        s.due("BAD", BAD, -1);
        s.due("FULL", FULL, -2);
        s.due("STATE", STATE, -4);
        s.due("SPENT", Sentences.SPENT, -6);
        s.due("FINDING", FINDING, -3);
        s.due("NONE", NONE, -9);
        s.from(Drums::rich).refuses(BAD, "row", 6, -1);
        s.refuses(BAD, "at", 6, -1);
        s.refuses(BAD, "copy", 0, 99, 6, -1, -1);
        s.refuses(BAD, "mark", 4, 6);
        s.refuses(BAD, "lies", 6, 5);
        s.refuses(BAD, "on", 3);
        s.from(Drums::wordless).refuses(BAD, "keep", 3);
        s.refuses(BAD, "takes", 41);
        s.refuses(BAD, "lots", 0, 1);
        s.from(Drums::full).refuses(BAD, "move", 0, 8);
        s.refuses(BAD, "swap", 0, 0);
        s.refuses(BAD, "value", 0, 100);
        s.refuses(BAD, "lots", 21, 1);
    }

    private static void refusedChangesNothing(Sentences s) {
        s.about(TERMS, "What is refused changes nothing but finding(), findings().");
        s.from(Drums::rich).refuses(BAD, "row", 0, 41);
        s.refuses(BAD, "drum", 4);
        s.refuses(STATE, "drum", 1);
        s.refuses(STATE, "move", 0, 6);
        s.finds(NOTHING, "drum", 3);
        s.finds(BEYOND, "lay", 0, 3, 1);
        s.finds(UNLIKE, "mark", 4, 1);
        s.finds(NOUGHT, "mean", 1);
        s.finds(SIZE, "row", 0, -1);
        s.from(Drums::full).refuses(FULL, "step");
        s.refuses(FULL, "lots", 1, 1);
        s.from(Drums::stopped).refuses(STATE, "step");
        s.from(Drums::wordless).refuses(STATE, "keep", 0);
        s.refuses(STATE, "least", 0, 0);
    }

    private static void findingNothing(Sentences s) {
        s.about(TERMS, "FINDINGS: 1 NOTHING (a ROW, a TEXT, a kept DRUM that is missing)");
        s.from(Drums::rich).finds(NOTHING, "at", 4, 0);
        s.finds(NOTHING, "put", 3, 0, 1);
        s.finds(NOTHING, "on", 2);
    }

    private static void findingBeyond(Sentences s) {
        s.about(TERMS, "2 BEYOND (a place that there is not)");
        s.from(Drums::rich).finds(BEYOND, "at", 0, 3);
        s.finds(BEYOND, "at", 0, -1);
        s.finds(BEYOND, "at", 1, 0);
        s.finds(BEYOND, "put", 2, 60, 1);
        s.gives(1, "at", 0, 2);
    }

    private static void findingUnlike(Sentences s) {
        s.about(TERMS, "3 UNLIKE (a WORD of another KIND; a number that is none)");
        s.from(Drums::rich).finds(UNLIKE, "mark", 0, 2);
        s.from(() -> Drums.withRow(Drums.PAIR, 1000)).finds(UNLIKE, "lies", 0, 0);
        s.from(() -> Drums.withRow(Drums.PAIR, -1)).finds(UNLIKE, "kinds", 0, 0);
    }

    private static void findingNought(Sentences s) {
        s.about(TERMS, "4 NOUGHT (shared among none)");
        s.from(Drums::rich).finds(NOUGHT, "mean", 1);
    }

    private static void findingSize(Sentences s) {
        s.about(TERMS, "5 SIZE (fewer than none; not as many as due)");
        s.from(Drums::rich).finds(SIZE, "row", 4, -1);
        s.finds(SIZE, "text", 3, -1);
        s.finds(SIZE, "copy", 0, 0, 0, 0, -1);
        s.finds(SIZE, "lies", 0, 1);
        s.finds(SIZE, "kinds", 0, 2);
    }

    private static void lowestTerms(Sentences s) {
        s.about(TERMS, "Chances, means are told by upper(), lower(), in lowest terms, the lower number"
            + " above 0 (0 by 1).");
        s.from(Drums.PAIR).shares(2, 1, 3, "idle", 1);
        s.shares(0, 0, 1, "idle", 0);
        s.shares(1, 1, 4, "odds", 1, 6, 6);
        s.shares(1, 0, 1, "odds", 1, 5, 6);
        s.shares(1, 1, 1, "odds", 1, 999, 6);
        s.shares(1, 12, 1, "mid", 1, 6);
        s.shares(1, 0, 1, "mid", 0, 6);
        s.from("d7 a010 n350").shares(1, 43, 6, "mid", 1, 1);
        s.from(Drums::rich);
        s.due("another share was told ahead", Drums.rich().lower() > 1 ? 1 : 0, 1);
        s.shares(0, 0, 1, "idle", 0);
        s.shares(1, 0, 1, "odds", 1, 0, 0);
        s.shares(1, 0, 1, "mid", 0, 12);
    }

    private static void setsByBits(Sentences s) {
        s.about(TERMS, "Sets (of PLACES, KINDS) are told by bits.");
        s.from(() -> Drums.withRow("d9 n000 n100", 1)).gives(1, "lies", 0, 0);
        s.gives(1 | 4, "kinds", 0, 0);
        s.from(() -> Drums.withRow("d9 n000 n100", 9)).gives(1 << 8, "lies", 0, 0);
        s.gives(0, "lies", 1, 0);
        s.from(() -> Drums.withRow("d9 n000 n100", 2)).gives(1 << 5, "kinds", 0, 0);
        s.gives(0, "lies", 0, 0);
        s.from(() -> Drums.withRow("d9 j001 n100", 1)).gives(0x1FE, "lies", 1, 0);
        s.gives(0x3F, "kinds", 1, 0);
    }

    private static void rowsOf0To40(Sentences s) {
        s.about(TERMS, "ROWS 0 .. 5 are rows of 0 to 40 ints");
        s.from(DrumWords::new).gives(0, "row", 0, 0);
        s.gives(40, "row", 5, 40);
        s.refuses(BAD, "row", -1, 0);
        s.refuses(BAD, "row", 6, 0);
        s.refuses(BAD, "row", 0, 41);
        s.finds(SIZE, "row", 0, -1);
        DrumWords x = new DrumWords();
        for (int r = 0; r < 6; r++) {
            s.due("row(" + r + ", 40)", x.row(r, 40), 40);
            x.lay(r, 39, Sentences.MOST - r);
            x.lay(r, 0, Sentences.LEAST + r);
        }
        for (int r = 0; r < 6; r++) {
            s.due("at(" + r + ", 39)", Drums.ofRow(x, r, 39), Sentences.MOST - r);
            s.due("at(" + r + ", 0)", Drums.ofRow(x, r, 0), Sentences.LEAST + r);
        }
    }

    private static void textsOf0To60(Sentences s) {
        s.about(TERMS, "TEXTS 0 .. 3 rows of 0 to 60 bytes");
        s.from(DrumWords::new).gives(0, "text", 0, 0);
        s.gives(60, "text", 3, 60);
        s.refuses(BAD, "text", -1, 0);
        s.refuses(BAD, "text", 4, 0);
        s.refuses(BAD, "text", 0, 61);
        s.finds(SIZE, "text", 0, -1);
        DrumWords x = new DrumWords();
        for (int t = 0; t < 4; t++) {
            s.due("text(" + t + ", 60)", x.text(t, 60), 60);
            s.due("put(" + t + ", 59, 127)", x.put(t, 59, 127 - t), 1032);
            s.due("put(" + t + ", 0, -128)", x.put(t, 0, t - 128), 1032);
        }
        for (int t = 0; t < 4; t++) {
            s.due("put(" + t + ", 59, 0) again", x.put(t, 59, 0), 1127 - t);
            s.due("put(" + t + ", 0, 0) again", x.put(t, 0, 0), 872 + t);
        }
    }

    private static void missingAtFirst(Sentences s) {
        s.about(TERMS, "or missing (at first)");
        s.from(DrumWords::new);
        for (int r = 0; r < 6; r++) {
            s.finds(NOTHING, "tear", r);
        }
        for (int t = 0; t < 4; t++) {
            s.finds(NOTHING, "fault", t);
        }
    }

    private static void eachWordHasAValue(Sentences s) {
        s.about(TERMS, "Each WORD has a VALUE (0 .. 99), all but NUMBERS 0 at first.");
        s.from("d9 a000 j100 s200 t300 e400 n599");
        for (int i = 0; i < 5; i++) {
            s.asks(1, 0, "word", i, 2);
            s.gives(0, "value", i, 99);
            s.gives(0, "value", i, 0);
            s.refuses(BAD, "value", i, 100);
            s.refuses(BAD, "value", i, -1);
        }
        s.asks(1, 99, "word", 5, 2);
        s.from("d9 n000 n101").asks(1, 0, "word", 0, 2);
        s.asks(1, 1, "word", 1, 2);
    }

    /** A STEP behind an ADD of the VALUE of WORD 2, with that of WORD 3. */
    private static int sumBehind(String letter, int one, int other) {
        DrumWords x = Check.drumOf("d9 a021 " + letter + "130 n200 n300");
        x.value(2, one);
        x.value(3, other);
        x.step();
        x.step();
        return x.count(4);
    }

    private static void sumLeftOverBy100(Sentences s) {
        s.about(TERMS, "There is a SUM (0 .. 99; what goes beyond is left over by 100).");
        s.due("0 and 0", sumBehind("a", 0, 0), 0);
        s.due("99 and 0", sumBehind("a", 99, 0), 99);
        s.due("98 and 1", sumBehind("a", 98, 1), 99);
        s.due("99 and 1", sumBehind("a", 99, 1), 0);
        s.due("50 and 51", sumBehind("a", 50, 51), 1);
        s.due("99 and 99", sumBehind("a", 99, 99), 98);
        s.due("99 times 1", sumBehind("t", 99, 1), 99);
        s.due("33 times 3", sumBehind("t", 33, 3), 99);
        s.due("50 times 2", sumBehind("t", 50, 2), 0);
        s.due("51 times 2", sumBehind("t", 51, 2), 2);
        s.due("99 times 99", sumBehind("t", 99, 99), 1);
        s.due("99 times 0", sumBehind("t", 99, 0), 0);
        s.due("0 times 99", sumBehind("t", 0, 99), 0);
    }

    private static void stepOfANumber(Sentences s) {
        s.about(TERMS, "A STEP of a NUMBER: the machine STOPS.");
        DrumWords x = Check.drumOf("d9 n077 n100");
        s.due("step()", x.step(), 1);
        s.due("nothing is due", x.count(5), NONE);
        s.due("the SUM stays", x.count(4), 0);
        s.due("step() again", x.step(), STATE);
    }

    private static void stepOfAnAdd(Sentences s) {
        s.about(TERMS, "Of an ADD: VALUE of WITH comes to the SUM; it WORKS 2 beats.");
        DrumWords x = Check.drumOf("d9 a011 n177");
        s.due("READ, READ, 2 beats", x.step(), 4);
        s.due("the SUM", x.count(4), 77);
        s.due("NEXT", x.count(5), 1);
        s.due("VALUE of WITH stays", Drums.ofWord(x, 1, 2), 77);
        DrumWords itself = Check.drumOf("d9 a001 n177");
        itself.value(0, 99);
        s.due("WITH is itself: a whole turn", itself.step(), 1 + 9 + 2);
        s.due("its own VALUE", itself.count(4), 99);
    }

    private static void stepOfAStore(Sentences s) {
        s.about(TERMS, "Of a STORE: the SUM comes to be VALUE of WITH; 1 beat.");
        DrumWords x = Check.drumOf("d9 a021 s422 n199");
        x.step();
        s.due("READ at 4, 5 beats waited, written, 1 beat", x.step(), 1 + 5 + 1 + 1);
        s.due("the SUM stays", x.count(4), 99);
        s.due("stored alike", Drums.ofWord(x, 2, 2), 99);
        DrumWords nought = Check.drumOf("d9 s011 n199");
        s.due("READ, written, 1 beat", nought.step(), 3);
        s.due("0 is stored", Drums.ofWord(nought, 1, 2), 0);
        DrumWords onAnAdd = Check.drumOf("d9 a021 s300 n199");
        onAnAdd.step();
        onAnAdd.step();
        s.due("stored on an ADD", Drums.ofWord(onAnAdd, 0, 2), 99);
    }

    private static int beatsOfTimes(int value) {
        DrumWords x = Check.drumOf("d9 t011 n100");
        x.value(1, value);
        return x.step();
    }

    private static void stepOfTimes(Sentences s) {
        s.about(TERMS, "Of TIMES: the SUM becomes SUM times VALUE of WITH; 2 beats and as many more as"
            + " the tens of that VALUE.");
        s.due("times 0", beatsOfTimes(0), 2 + 2);
        s.due("times 9", beatsOfTimes(9), 2 + 2);
        s.due("times 10", beatsOfTimes(10), 2 + 3);
        s.due("times 19", beatsOfTimes(19), 2 + 3);
        s.due("times 20", beatsOfTimes(20), 2 + 4);
        s.due("times 89", beatsOfTimes(89), 2 + 10);
        s.due("times 90", beatsOfTimes(90), 2 + 11);
        s.due("times 99", beatsOfTimes(99), 2 + 11);
        s.due("7 times 12", sumBehind("t", 7, 12), 84);
    }

    private static void stepOfAJump(Sentences s) {
        s.about(TERMS, "Of a JUMP: nothing; 0 beats, WITH is not used.");
        DrumWords x = Check.drumOf("d9 j012 n800 n199");
        s.due("READ alone", x.step(), 1);
        s.due("the SUM stays", x.count(4), 0);
        s.due("NEXT is due", x.count(5), 2);
        s.due("the BEAT", x.count(3), 1);
        s.from("d9 j012 n800 n199").shares(1, 1, 1, "odds", 1, 1, 0);
        s.shares(1, 11, 12, "odds", 1, 1, 1);
    }

    private static int dueBehindATest(int sum) {
        DrumWords x = Check.drumOf("d9 a041 e123 n300 n200 n400");
        x.value(4, sum);
        x.step();
        x.step();
        return x.count(5);
    }

    private static void stepOfATest(Sentences s) {
        s.about(TERMS, "Of a TEST: 1 beat; WITH is the WORD behind it, if the SUM is 50 or more, else"
            + " NEXT is.");
        s.due("the SUM is 0", dueBehindATest(0), 3);
        s.due("the SUM is 49", dueBehindATest(49), 3);
        s.due("the SUM is 50", dueBehindATest(50), 2);
        s.due("the SUM is 51", dueBehindATest(51), 2);
        s.due("the SUM is 99", dueBehindATest(99), 2);
        DrumWords x = Check.drumOf("d9 e010 n800");
        s.due("READ alone, 1 beat", x.step(), 2);
        s.due("a whole turn later", x.step(), 7 + 1 + 1);
    }

    private static void beat0AtFirst(Sentences s) {
        s.about(TERMS, "BEAT 0 it is at first, the SUM is 0, WORD 0 is due.");
        s.from(Drums.CROWDED).gives(0, "count", 3);
        s.gives(0, "count", 4);
        s.gives(0, "count", 5);
    }

    private static void placeUnderTheHead(Sentences s) {
        s.about(TERMS, "At BEAT t the PLACE of number t by how many PLACES (left over) is under the"
            + " head.");
        for (int places = 6; places <= 9; places++) {
            s.from("d" + places + " n000 n" + (places - 1) + "00");
            s.gives(0, "waits", 0, 0);
            s.gives(0, "waits", 1, places - 1);
            s.gives(0, "waits", 0, places);
            s.gives(places - 1, "waits", 0, 1);
            s.gives(1, "waits", 0, places - 1);
            s.gives(places - 1, "waits", 1, places);
            s.gives(0, "waits", 0, 990 - 990 % places);
            s.gives(0, "waits", 1, 990 - 990 % places - 1);
        }
    }

    private static void readInTheFirstBeat(Sentences s) {
        s.about(TERMS, "A WORD is READ in the first BEAT, from now on, in which its PLACE is under the"
            + " head; it is the next BEAT then.");
        s.from("d9 n000 n100").gives(1, "step");
        s.from("d9 n800 n100").gives(9, "step");
        DrumWords x = Check.drumOf("d9 j001 j100");
        s.due("under the head", x.step(), 1);
        s.due("the next one", x.step(), 1);
        s.due("gone by, 7 are waited", x.step(), 8);
        DrumWords itself = Check.drumOf("d9 j000 n100");
        itself.step();
        s.due("just gone by costs a whole turn", itself.step(), 9);
        s.due("the BEAT", itself.count(3), 10);
    }

    private static void aStepReadsThenWorks(Sentences s) {
        s.about(TERMS, "A STEP: the WORD that is due is READ; an ADD, a STORE, TIMES then READS"
            + " (writes, likewise) its WITH; then it WORKS its beats; NEXT is due (of a TEST as told).");
        s.from("d9 a122 n000 n300").gives(1 + 1 + 1 + 1 + 2, "step");
        s.from("d9 s122 n000 n300").gives(1 + 1 + 1 + 1 + 1, "step");
        s.from("d9 t122 n000 n345").gives(1 + 1 + 1 + 1 + 2 + 4, "step");
        s.from("d9 a322 n000 n100").gives(3 + 1 + 6 + 1 + 2, "step");
        s.from("d9 s322 n000 n100").gives(3 + 1 + 6 + 1 + 1, "step");
        s.from("d9 t322 n000 n100").gives(3 + 1 + 6 + 1 + 2, "step");
        s.from("d9 j322 n000 n100").gives(3 + 1, "step");
        s.from("d9 e322 n000 n100").gives(3 + 1 + 1, "step");
        for (String letter : new String[] {"a", "s", "t", "j"}) {
            DrumWords x = Check.drumOf("d9 " + letter + "012 n100 n200");
            x.step();
            s.due(letter + ": NEXT is due", x.count(5), 2);
        }
    }

    private static void stopsBehindBeingRead(Sentences s) {
        s.about(TERMS, "Of a NUMBER that was due: it STOPS behind being READ (nothing is due).");
        DrumWords x = Check.drumOf(Drums.TO_A_NUMBER);
        x.step();
        s.due("it is READ", x.step(), 4);
        s.due("nothing is due", x.count(5), NONE);
        s.due("the BEAT behind it", x.count(3), 5);
        s.due("it is a STEP", x.count(6), 2);
    }

    private static void whatIsDone(Sentences s) {
        s.about(TERMS, "What is done: a STEP, a WORD moves to a free PLACE, two change round, a VALUE"
            + " is told anew.");
        DrumWords x = Check.drumOf(Drums.PAIR);
        x.step();
        s.due("a STEP", x.count(2), 1);
        x.move(0, 5);
        s.due("a WORD moves", x.count(2), 2);
        x.swap(0, 1);
        s.due("two change round", x.count(2), 3);
        x.value(1, 50);
        s.due("a VALUE is told anew", x.count(2), 4);
        x.keep(0);
        x.takes(40);
        x.least(12, 0);
        s.due("nothing else is", x.count(2), 4);
        s.due("they take no beats", x.count(3), 6);
    }

    private static void deeds40AtMost(Sentences s) {
        s.about(TERMS, "These are DEEDS (40 at most).");
        s.from(() -> Drums.withDeeds(Drums.PAIR, 39)).gives(6, "step");
        s.gives(0, "move", 0, 5);
        s.gives(3, "swap", 0, 1);
        s.gives(50, "value", 1, 1);
        s.gives(6, "lots", 1, 1);
        s.refuses(FULL, "lots", 2, 1);
        s.from(() -> Drums.withDeeds(Drums.PAIR, 40)).refuses(FULL, "step");
        s.refuses(FULL, "move", 0, 5);
        s.refuses(FULL, "swap", 0, 1);
        s.refuses(FULL, "value", 1, 1);
        s.refuses(FULL, "lots", 1, 1);
        s.gives(40, "count", 2);
    }

    private static void stepsToComeAreAside(Sentences s) {
        s.about(TERMS, "(aside; where it STOPS ahead, no more are done)");
        s.from(Drums::rich).leaves("takes", 40);
        s.leaves("idle", 40);
        s.aside(NONE, "stops");
        s.aside(0, "when", 4, 66);
        s.from(Drums::full).aside(0, "takes", 0);
        s.from(Drums.TO_A_NUMBER).asks(5, 0, "takes", 40);
        s.gives(5, "takes", 2);
        s.gives(5, "takes", 3);
        s.gives(3, "idle", 40);
        s.from(Drums::stopped).asks(0, 0, "takes", 40);
        s.gives(0, "idle", 40);
        s.gives(0, "stops");
        s.none("when", 0, 1);
    }

    private static void placingsAreAside(Sentences s) {
        s.about(TERMS, "(aside: WORDS moved as if they always lay so; the BEAT, the SUM, what is due as"
            + " now)");
        s.from(Drums::rich).leaves("place", 1, 40);
        s.leaves("best", 40);
        DrumWords x = Check.drumOf("d6 a021 e130 n550 n300");
        x.step();
        s.due("the BEAT is 8, the TEST is due, the SUM is 50", x.takes(1), 7);
        s.due("its PLACE is 2", x.place(1, 1), 2);
        s.due("in 2 beats", x.asked(), 2);
        s.due("the NUMBER, not the ADD, is behind it", x.least(2, 0), 3);
        s.holds(x, "PLACES", 0, 0, 2, 1, 4);
    }

    private static void rowsOf1To6Beats(Sentences s) {
        s.about(TERMS, "(a ROW of 1 to 6 numbers 0 .. 999: in how many beats from now each of as many"
            + " STEPS was done, one behind the other)");
        s.from(() -> Drums.withRow(Drums.PAIR)).finds(SIZE, "lies", 1, 0);
        s.from(() -> Drums.withRow(Drums.PAIR, 6)).gives(8, "lies", 1, 0);
        s.from(() -> Drums.withRow(Drums.PAIR, 6, 12, 18, 24, 30, 36)).gives(8, "lies", 1, 0);
        s.from(() -> Drums.withRow(Drums.PAIR, 6, 12, 18, 24, 30, 35)).gives(0, "lies", 1, 0);
        s.from(() -> Drums.withRow(Drums.PAIR, 6, 6)).gives(0, "lies", 1, 0);
        s.from(() -> Drums.withRow(Drums.PAIR, 6, 12, 18, 24, 30, 36, 42)).finds(SIZE, "lies", 1, 0);
        s.from(() -> Drums.withRow(Drums.PAIR, 0)).gives(0, "lies", 1, 0);
        s.from(() -> Drums.withRow(Drums.PAIR, 999)).gives(0, "lies", 1, 0);
        s.from(() -> Drums.withRow(Drums.PAIR, -1)).finds(UNLIKE, "lies", 1, 0);
        s.from(() -> Drums.withRow(Drums.PAIR, 1000)).finds(UNLIKE, "lies", 1, 0);
        DrumWords x = Drums.withRow(Drums.PAIR, 6);
        x.step();
        s.due("from now, not from BEAT 0", x.lies(1, 0), 8);
    }
}
