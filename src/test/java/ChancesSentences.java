import java.math.BigInteger;

/** The sentences of promises 33 to 36: duel, odds, mid, lots. */
final class ChancesSentences {
    private static final int BAD = Sentences.BAD, FULL = Sentences.FULL, STATE = Sentences.STATE;
    private static final int NONE = Sentences.NONE;
    private static final int MOST = Sentences.MOST, LEAST = Sentences.LEAST;

    private ChancesSentences() {
    }

    static void tryAll(Sentences s) {
        promise33ByTurns(s);
        s.refusesByHowMany(33, "duel", 3);
        promise34Chances(s);
        promise34EachReading(s);
        promise34Bad(s);
        promise34StateNoWords(s);
        promise35TheMean(s);
        promise35Bad(s);
        promise35StateNoWords(s);
        promise36DeedsByLots(s);
        promise36TwoChangeRound(s);
        promise36OrNothingIsDue(s);
        promise36Bad(s);
        promise36StateNoWords(s);
        promise36Full(s);
        promise36FullLast(s);
    }

    private static void duels(Sentences s, String text, int... wanted) {
        s.from(text);
        for (int n = 0; n < wanted.length; n++) {
            s.gives(wanted[n], "duel", n);
        }
    }

    private static void promise33ByTurns(Sentences s) {
        s.about(33, "By n (0 .. 3) turns in all one changes two WORDS round, or none, then another one"
            + " does, so that 8 STEPS take as long, as short as can be (the first wants long): how many"
            + " beats.");
        duels(s, Drums.PAIR, 48, 51, 48, 51);
        duels(s, "d6 a310 n050", 51, 51, 48, 51);
        duels(s, "d6 j011 n500", 6, 7, 6, 7);
        duels(s, "d6 j511 n000", 7, 7, 6, 7);
        duels(s, "d6 n000 n300 n500", 1, 6, 1, 6);
        duels(s, "d6 n500 n300 n000", 6, 6, 1, 6);
        duels(s, Drums.LOOP, 83, 92, 63);
        s.from(Drums::stopped).gives(0, "duel", 3);
        s.from(() -> Drums.withSteps(Drums.TO_A_NUMBER, 1)).gives(4, "duel", 0);
        s.gives(9, "duel", 1);
        s.from(Drums::rich).leaves("duel", 3);
    }

    private static void promise34Chances(Sentences s) {
        s.about(34, "Chances that n (0 .. 3) STEPS are done in v (0 .. 999) beats or fewer, if each"
            + " READING misses by p (0 .. 12) of 12, once at most, each by itself (a whole turn more):"
            + " 1.");
        s.from(Drums.PAIR).shares(1, 1, 1, "odds", 0, 0, 0);
        s.shares(1, 1, 1, "odds", 0, 0, 12);
        s.shares(1, 0, 1, "odds", 1, 0, 0);
        s.shares(1, 0, 1, "odds", 1, 5, 0);
        s.shares(1, 1, 1, "odds", 1, 6, 0);
        s.shares(1, 1, 4, "odds", 1, 6, 6);
        s.shares(1, 1, 4, "odds", 1, 11, 6);
        s.shares(1, 3, 4, "odds", 1, 12, 6);
        s.shares(1, 3, 4, "odds", 1, 17, 6);
        s.shares(1, 1, 1, "odds", 1, 18, 6);
        s.shares(1, 0, 1, "odds", 1, 17, 12);
        s.shares(1, 1, 1, "odds", 1, 18, 12);
        s.shares(1, 121, 144, "odds", 1, 6, 1);
        s.shares(1, 1, 144, "odds", 1, 6, 11);
        s.shares(1, 1, 1, "odds", 3, 999, 12);
        s.leaves("odds", 3, 999, 12);
    }

    private static void promise34EachReading(Sentences s) {
        s.about(34, "each READING misses by p (0 .. 12) of 12, once at most, each by itself");
        s.from(Drums.PAIR).shares(1, 1771561, 2985984, "odds", 3, 18, 1);
        s.shares(1, 2985983, 2985984, "odds", 3, 53, 1);
        s.shares(1, 1, 1, "odds", 3, 54, 1);
        s.shares(1, 1, 64, "odds", 3, 18, 6);
        s.shares(1, 7, 64, "odds", 3, 24, 6);
        s.shares(1, 11, 32, "odds", 3, 30, 6);
        DrumWords x = Check.drumOf(Drums.PAIR);
        for (int k = 0; k < 3; k++) {
            x.odds(1, 12, 6);
            s.due("as often as asked, upper()", x.upper(), 3);
            s.due("as often as asked, lower()", x.lower(), 4);
        }
    }

    private static void promise34Bad(Sentences s) {
        s.about(34, "BAD");
        int[][] wrong = {{-1, 0, 0}, {4, 0, 0}, {0, -1, 0}, {0, 1000, 0}, {0, 0, -1}, {0, 0, 13},
            {MOST, 0, 0}, {0, MOST, 0}, {0, 0, MOST}, {LEAST, 0, 0}, {0, LEAST, 0}, {0, 0, LEAST}};
        for (int[] w : wrong) {
            s.from(Drums::rich).refuses(BAD, "odds", w);
            s.from(Drums::wordless).refuses(BAD, "odds", w);
        }
        s.from(Drums::rich).gives(1, "odds", 3, 999, 12);
        s.gives(1, "odds", 0, 0, 0);
    }

    private static void promise34StateNoWords(Sentences s) {
        s.about(34, "STATE: no WORDS.");
        s.from(Drums::wordless).refuses(STATE, "odds", 0, 0, 0);
        s.refuses(STATE, "odds", 3, 999, 12);
        s.from(DrumWords::new).refuses(STATE, "odds", 1, 1, 1);
    }

    private static void promise35TheMean(Sentences s) {
        s.about(35, "The mean of these beats: 1.");
        s.from(Drums.PAIR).shares(1, 0, 1, "mid", 0, 0);
        s.shares(1, 0, 1, "mid", 0, 12);
        s.shares(1, 6, 1, "mid", 1, 0);
        s.shares(1, 7, 1, "mid", 1, 1);
        s.shares(1, 18, 1, "mid", 1, 12);
        s.shares(1, 18, 1, "mid", 3, 0);
        s.shares(1, 54, 1, "mid", 3, 12);
        s.leaves("mid", 3, 12);
        s.from("d9 j001 n100").shares(1, 7, 4, "mid", 1, 1);
        s.shares(1, 7, 2, "mid", 3, 1);
        s.shares(1, 20, 1, "mid", 3, 12);
        s.from("d7 j001 n100").shares(1, 19, 12, "mid", 1, 1);
        s.shares(1, 89, 12, "mid", 1, 11);
        s.from(Drums::stopped).shares(1, 0, 1, "mid", 3, 12);
    }

    private static void promise35Bad(Sentences s) {
        s.about(35, "BAD");
        int[][] wrong = {{-1, 0}, {4, 0}, {0, -1}, {0, 13}, {MOST, 0}, {0, MOST}, {LEAST, 0}, {0, LEAST}};
        for (int[] w : wrong) {
            s.from(Drums::rich).refuses(BAD, "mid", w);
            s.from(Drums::wordless).refuses(BAD, "mid", w);
        }
        s.from(Drums::rich).gives(1, "mid", 3, 12);
    }

    private static void promise35StateNoWords(Sentences s) {
        s.about(35, "STATE: no WORDS.");
        s.from(Drums::wordless).refuses(STATE, "mid", 0, 0);
        s.refuses(STATE, "mid", 3, 12);
        s.from(DrumWords::new).refuses(STATE, "mid", 1, 1);
    }

    private static long next(long lot) {
        BigInteger modulus = BigInteger.valueOf(2147483647L);
        return BigInteger.valueOf(48271).multiply(BigInteger.valueOf(lot)).mod(modulus).longValue();
    }

    /** The DEEDS that LOTS make, each by its own call. */
    private static void byHand(DrumWords x, int n, int seed) {
        long lot = seed;
        int words = x.count(0);
        for (int k = 0; k < n; k++) {
            lot = next(lot);
            if (lot % 3 == 0 || x.count(5) == NONE) {
                int i = (int) (lot / 8 % words);
                x.swap(i, i == words - 1 ? 0 : i + 1);
            } else {
                x.step();
            }
        }
    }

    private static void promise36DeedsByLots(Sentences s) {
        s.about(36, "n (1 .. 20) DEEDS truly by LOTS of a seed: a number comes from the one ahead by"
            + " 48271 times it modulo 2147483647, the first from the seed (1 .. 2147483646): if it"
            + " modulo 3 is 0, or nothing is due, two WORDS change round (the one that it by 8, cut,"
            + " modulo how many there are is, and the one behind it, the last one's being 0), else a"
            + " STEP is done: the BEAT then.");
        String[] texts = {Drums.PAIR, Drums.LOOP, Drums.CROWDED, Drums.TO_A_NUMBER, "d9 j001 j102 e210"};
        int[] seeds = {1, 2, 3, 44488, 1073741824, 2147483645, 2147483646};
        for (String text : texts) {
            for (int seed : seeds) {
                for (int n : new int[] {1, 2, 20}) {
                    DrumWords x = Check.drumOf(text);
                    DrumWords same = Check.drumOf(text);
                    byHand(same, n, seed);
                    String call = "'" + text + "', lots(" + n + ", " + seed + ")";
                    s.due(call, x.lots(n, seed), same.count(3));
                    s.due(call + ", DEEDS", x.count(2), n);
                    s.dueSame(x, same, call, true);
                }
            }
        }
    }

    private static void promise36TwoChangeRound(Sentences s) {
        s.about(36, "two WORDS change round (the one that it by 8, cut, modulo how many there are is,"
            + " and the one behind it, the last one's being 0)");
        // from 2147483646 comes 2147435376: three times 715811792, 8 times 268429422
        DrumWords two = Check.drumOf("d9 n000 n800");
        s.due("268429422 modulo 2 is 0", two.lots(1, 2147483646), 0);
        s.due("PLACE of 0", Drums.ofWord(two, 0, 1), 8);
        DrumWords four = Check.drumOf("d9 n000 n800 n700 n600");
        s.due("268429422 modulo 4 is 2", four.lots(1, 2147483646), 0);
        s.due("PLACE of 2", Drums.ofWord(four, 2, 1), 6);
        s.due("PLACE of 3", Drums.ofWord(four, 3, 1), 7);
        // from 48271 comes 182605794: three times 60868598, 8 times 22825724 and 2 more
        DrumWords three = Check.drumOf("d9 n000 n800 n700");
        s.due("22825724 modulo 3 is 2", three.lots(1, 48271), 0);
        s.due("PLACE of the last one", Drums.ofWord(three, 2, 1), 0);
        s.due("PLACE of the first one", Drums.ofWord(three, 0, 1), 7);
    }

    private static void promise36OrNothingIsDue(Sentences s) {
        s.about(36, "or nothing is due");
        DrumWords x = Drums.stopped();
        // from 1 comes 48271, which would be a STEP: 6033 by 8, modulo 2 is 1
        s.due("the BEAT stays", x.lots(1, 1), 5);
        s.due("no STEP more", x.count(6), 2);
        s.due("a DEED more", x.count(2), 3);
        s.due("PLACE of 1", Drums.ofWord(x, 1, 1), 0);
        s.due("PLACE of 0", Drums.ofWord(x, 0, 1), 4);
        s.due("it is undone", x.undo(2), 1);
        s.due("PLACE of 0", Drums.ofWord(x, 0, 1), 0);
    }

    private static void promise36Bad(Sentences s) {
        s.about(36, "BAD");
        int[][] wrong = {{0, 1}, {21, 1}, {-1, 1}, {MOST, 1}, {LEAST, 1}, {1, 0}, {1, -1}, {1, MOST},
            {1, LEAST}, {0, 0}};
        for (int[] w : wrong) {
            s.from(Drums::rich).refuses(BAD, "lots", w);
            s.from(Drums::wordless).refuses(BAD, "lots", w);
            s.from(Drums::full).refuses(BAD, "lots", w);
        }
    }

    private static void promise36StateNoWords(Sentences s) {
        s.about(36, "STATE: no WORDS");
        s.from(Drums::wordless).refuses(STATE, "lots", 1, 1);
        s.refuses(STATE, "lots", 20, 2147483646);
        s.from(DrumWords::new).refuses(STATE, "lots", 1, 1);
    }

    private static void promise36Full(Sentences s) {
        s.about(36, "FULL: with n more there would be more than 40 DEEDS.");
        s.from(() -> Drums.withDeeds(Drums.PAIR, 40)).refuses(FULL, "lots", 1, 1);
        s.from(() -> Drums.withDeeds(Drums.PAIR, 39)).refuses(FULL, "lots", 2, 1);
        s.gives(6, "lots", 1, 1);
        s.from(() -> Drums.withDeeds(Drums.PAIR, 21)).refuses(FULL, "lots", 20, 1);
        DrumWords x = Drums.withDeeds(Drums.PAIR, 20);
        s.due("20 and 20", x.lots(20, 1) >= 0 ? x.count(2) : NONE, 40);
        s.from(Drums::full).refuses(FULL, "lots", 20, 1);
    }

    private static void promise36FullLast(Sentences s) {
        s.about(36, "(FULL last.)");
        s.from(Drums::full).refuses(BAD, "lots", 21, 1);
        s.refuses(BAD, "lots", 1, 0);
        s.refuses(FULL, "lots", 1, 1);
        s.from(Drums::stoppedAndFull).refuses(FULL, "lots", 1, 1);
    }
}
