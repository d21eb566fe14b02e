/** The sentences of promises 37 to 43: asked, upper, lower, count, finding, findings, digest. */
final class ToldSentences {
    private static final int BAD = Sentences.BAD, NONE = Sentences.NONE;
    private static final int MOST = Sentences.MOST, LEAST = Sentences.LEAST;

    private ToldSentences() {
    }

    static void tryAll(Sentences s) {
        promise37WhatTheLatestTold(s);
        promise37NotRefusedNorNone(s);
        promise37OthersTellNothing(s);
        promise37Before(s);
        promise38AndPromise39ToldLast(s);
        promise38AndPromise39Before(s);
        promise40Counts(s);
        promise40WithoutWords(s);
        promise40NoneIsDue(s);
        promise40Bad(s);
        promise41TheLatest(s);
        promise41BeforeAny(s);
        promise42HowOften(s);
        promise42Bad(s);
        promise43OfAllV(s);
        promise43WrapsRound(s);
    }

    private static void promise37WhatTheLatestTold(Sentences s) {
        s.about(37, "What the latest lay(), at(), mean(), word(), takes(), when(), place(), best(),"
            + " watch() that was not refused (nor answered NONE) told");
        DrumWords x = Drums.withRow("d6 a310 n050", 3, 8);
        s.due("lay()", x.lay(0, 1, 9) == 1 ? x.asked() : NONE, 8);
        s.due("at()", Drums.ofRow(x, 0, 0), 3);
        s.due("mean()", x.mean(0) == 1 ? x.asked() : NONE, 6);
        s.due("word()", Drums.ofWord(x, 1, 2), 50);
        s.due("word() of NONE", Drums.ofWord(x, 1, 3), NONE);
        s.due("takes()", x.takes(2) == 15 ? x.asked() : NONE, 0);
        s.due("place()", x.place(1, 1) == 4 ? x.asked() : NONE, 7);
        s.due("when()", x.when(1, 50) == 0 ? x.asked() : NONE, 0);
        s.due("best()", x.best(1) == 1 ? x.asked() : NONE, 6);
        s.due("watch()", x.watch(1) == 1 ? x.asked() : NONE, 1);
        s.due("asked() again", x.asked(), 1);
    }

    private static void promise37NotRefusedNorNone(Sentences s) {
        s.about(37, "that was not refused (nor answered NONE)");
        s.from(Drums::rich).none("best", 0);
        s.none("when", 0, 99);
        s.refuses(BAD, "at", 6, 0);
        s.refuses(BAD, "word", 0, 6);
        s.refuses(BAD, "takes", 41);
        s.refuses(BAD, "watch", 6);
        s.finds(Sentences.BEYOND, "lay", 0, 3, 1);
        s.finds(Sentences.NOUGHT, "mean", 1);
        s.from(Drums::wordless).refuses(Sentences.STATE, "takes", 0);
        s.refuses(Sentences.STATE, "best", 0);
    }

    private static void promise37OthersTellNothing(Sentences s) {
        s.about(37, "What the latest lay(), at(), mean(), word(), takes(), when(), place(), best(),"
            + " watch()");
        DrumWords x = Drums.rich();
        int[] answers = {x.row(5, 2), x.tear(5), x.copy(0, 0, 2, 0, 3), x.text(3, 5), x.put(3, 0, 7),
            x.fault(0), x.mark(0, 1), x.waits(0, 5), x.step(), x.move(0, 4), x.swap(0, 1),
            x.value(0, 9), x.undo(5), x.keep(2), x.on(2), x.idle(3), x.stops(), x.least(3, 5),
            x.clerk(3, 5), x.lies(0, 3), x.kinds(0, 3), x.duel(1), x.odds(1, 9, 3), x.mid(1, 3),
            x.lots(2, 7), x.count(3), x.finding(), x.findings(1), x.drum(0)};
        for (int k = 0; k < answers.length; k++) {
            s.due("call " + k + " is not refused", answers[k] >= 0 || answers[k] == NONE ? 1 : 0, 1);
        }
        s.due("asked() is as ahead of all these", x.asked(), Drums.rich().asked());
        s.due("that was not 0", x.asked(), 5);
    }

    private static void promise37Before(Sentences s) {
        s.about(37, "0 before.");
        s.from(DrumWords::new).gives(0, "asked");
        s.from(Drums.PAIR).gives(0, "asked");
    }

    private static void promise38AndPromise39ToldLast(Sentences s) {
        s.about(38, "The upper number that was told last");
        s.about(39, "Its lower number");
        DrumWords x = Check.drumOf(Drums.PAIR);
        x.idle(1);
        s.due("idle(), upper()", x.upper(), 1);
        s.due("idle(), lower()", x.lower(), 3);
        x.odds(1, 12, 6);
        s.due("odds(), upper()", x.upper(), 3);
        s.due("odds(), lower()", x.lower(), 4);
        x.mid(3, 12);
        s.due("mid(), upper()", x.upper(), 54);
        s.due("mid(), lower()", x.lower(), 1);
        x.idle(41);
        x.odds(4, 0, 0);
        x.mid(0, 13);
        x.takes(1);
        x.step();
        x.drum(0);
        x.undo(0);
        s.due("the refused and others leave upper()", x.upper(), 54);
        s.due("the refused and others leave lower()", x.lower(), 1);
        x.odds(3, 18, 1);
        s.due("as many as can be, upper()", x.upper(), 1771561);
        s.due("as many as can be, lower()", x.lower(), 2985984);
    }

    private static void promise38AndPromise39Before(Sentences s) {
        s.about(38, "0 before.");
        s.from(DrumWords::new).gives(0, "upper");
        s.from(Drums.PAIR).gives(0, "upper");
        s.about(39, "1 before.");
        s.from(DrumWords::new).gives(1, "lower");
        s.from(Drums.PAIR).gives(1, "lower");
    }

    private static void promise40Counts(Sentences s) {
        s.about(40, "0 WORDS, 1 PLACES (0 without WORDS), 2 DEEDS, 3 the BEAT, 4 the SUM, 5 the WORD"
            + " that is due (NONE: none), 6 STEPS that were done, 7 ADDS (STORES, TIMES, too), 8 ROWS,"
            + " 9 TEXTS that are there, 10 kept DRUMS.");
        int[] counts = {6, 8, 5, 6, 7, 1, 1, 3, 4, 3, 2};
        s.from(Drums::rich);
        for (int what = 0; what <= 10; what++) {
            s.aside(counts[what], "count", what);
        }
        s.from(Drums::full).gives(40, "count", 2);
        s.from("d9 a000 s100 t200 a300 s400 t500").gives(6, "count", 7);
        s.from("d9 n000 j100 e200").gives(0, "count", 7);
        DrumWords x = Check.drumOf(Drums.PAIR);
        for (int k = 0; k < 6; k++) {
            x.row(k, k);
            x.text(Math.min(k, 3), k);
            x.keep(Math.min(k, 2));
        }
        s.due("all ROWS", x.count(8), 6);
        s.due("all TEXTS", x.count(9), 4);
        s.due("all kept DRUMS", x.count(10), 3);
    }

    private static void promise40WithoutWords(Sentences s) {
        s.about(40, "(0 without WORDS)");
        s.from(Drums::wordless);
        int[] counts = {0, 0, 0, 0, 0, NONE, 0, 0, 4, 3, 0};
        for (int what = 0; what <= 10; what++) {
            s.aside(counts[what], "count", what);
        }
    }

    private static void promise40NoneIsDue(Sentences s) {
        s.about(40, "(NONE: none)");
        s.from(Drums::stopped).none("count", 5);
        s.from(DrumWords::new).none("count", 5);
    }

    private static void promise40Bad(Sentences s) {
        s.about(40, "BAD");
        s.from(Drums::rich).refuses(BAD, "count", -1);
        s.refuses(BAD, "count", 11);
        s.refuses(BAD, "count", MOST);
        s.refuses(BAD, "count", LEAST);
    }

    private static void promise41TheLatest(Sentences s) {
        s.about(41, "The latest FINDING");
        DrumWords x = Drums.rich();
        x.tear(5);
        s.due("NOTHING", x.finding(), 1);
        x.at(0, 3);
        s.due("BEYOND", x.finding(), 2);
        x.mark(4, 1);
        s.due("UNLIKE", x.finding(), 3);
        x.mean(1);
        s.due("NOUGHT", x.finding(), 4);
        x.row(0, -1);
        s.due("SIZE", x.finding(), 5);
        x.row(0, 41);
        x.drum(1);
        x.row(0, 3);
        s.due("others leave it", x.finding(), 5);
        s.from(Drums::rich).gives(4, "finding");
    }

    private static void promise41BeforeAny(Sentences s) {
        s.about(41, "(0 before any).");
        s.from(DrumWords::new).gives(0, "finding");
        s.from(Drums.PAIR).gives(0, "finding");
        DrumWords x = new DrumWords();
        x.row(6, 0);
        x.step();
        s.due("BAD, STATE are none", x.finding(), 0);
    }

    private static void promise42HowOften(Sentences s) {
        s.about(42, "How often a FINDING (1 .. 5) was answered.");
        DrumWords x = new DrumWords();
        for (int f = 1; f <= 5; f++) {
            s.due("none before, findings(" + f + ")", x.findings(f), 0);
        }
        Check.tell(x, 0, Drums.PAIR);
        x.drum(0);
        x.row(0, 0);
        for (int k = 0; k < 6; k++) {
            x.tear(5);
            x.put(0, k < 2 ? 60 : 0, 'd');
            x.mark(1, k < 3 ? 1 : 0);
            x.mean(k < 4 ? 0 : 6);
            x.row(k < 5 ? 1 : 6, -1);
        }
        int[] often = {6, 2, 3, 4, 5};
        for (int f = 1; f <= 5; f++) {
            s.due("findings(" + f + ")", x.findings(f), often[f - 1]);
        }
        x.drum(0);
        x.undo(0);
        s.due("drum() leaves them", x.findings(1), 6);
        s.from(Drums::rich).aside(1, "findings", 4);
    }

    private static void promise42Bad(Sentences s) {
        s.about(42, "BAD");
        s.from(Drums::rich).refuses(BAD, "findings", 0);
        s.refuses(BAD, "findings", -1);
        s.refuses(BAD, "findings", 6);
        s.refuses(BAD, "findings", MOST);
        s.refuses(BAD, "findings", LEAST);
    }

    private static long mixed(long h, long... numbers) {
        long mixed = h;
        for (long v : numbers) {
            mixed = 31 * mixed + v;
        }
        return mixed;
    }

    private static void promise43OfAllV(Sentences s) {
        s.about(43, "h = 17; then h = 31 h + v for each v: count() 0 to 10; of each WORD word() 0 to 5;"
            + " of each kept DRUM how many DEEDS (-1: missing); of each ROW its size (-1: missing) and"
            + " places, of each TEXT likewise.");
        long h = mixed(17, 0, 0, 0, 0, 0, NONE, 0, 0, 0, 0, 0);
        h = mixed(h, -1, -1, -1);
        h = mixed(h, -1, -1, -1, -1, -1, -1);
        h = mixed(h, -1, -1, -1, -1);
        s.from(DrumWords::new).aside(h, "digest");
        DrumWords x = Check.drumOf(Drums.TO_A_NUMBER);
        x.keep(1);
        x.step();
        x.step();
        x.keep(2);
        x.text(0, 0);
        x.text(3, 2);
        x.put(3, 1, 128);
        Check.lay(x, 0, MOST, LEAST);
        x.row(5, 0);
        h = mixed(17, 2, 9, 2, 5, 0, NONE, 2, 0, 2, 2, 2);
        h = mixed(h, 2, 0, 0, 1, 1, 1);
        h = mixed(h, 0, 4, 0, NONE, NONE, 1);
        h = mixed(h, -1, 0, 2);
        h = mixed(h, 2, MOST, LEAST, -1, -1, -1, -1, 0);
        h = mixed(h, 0, -1, -1, 2, 32, -128);
        s.due("with some of all", x.digest(), h);
        s.from(Drums::full).leaves("digest");
    }

    private static void promise43WrapsRound(Sentences s) {
        s.about(43, "h = 31 h + v");
        DrumWords x = new DrumWords();
        long h = mixed(17, 0, 0, 0, 0, 0, NONE, 0, 0, 6, 4, 0);
        h = mixed(h, -1, -1, -1);
        for (int r = 0; r < 6; r++) {
            x.row(r, 40);
            x.lay(r, 0, MOST);
            x.lay(r, 39, LEAST);
            h = mixed(h, 40, MOST);
            h = mixed(h, new long[38]);
            h = mixed(h, LEAST);
        }
        for (int t = 0; t < 4; t++) {
            x.text(t, 60);
            x.put(t, 59, 255);
            h = mixed(h, 60);
            for (int i = 0; i < 59; i++) {
                h = mixed(h, 32);
            }
            h = mixed(h, -1);
        }
        s.due("as many as there may be", x.digest(), h);
    }
}
