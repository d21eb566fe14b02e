/** The sentences on texts and faults of the terms, and of promises 8 to 11: text, put, fault, drum. */
final class TextsSentences {
    private static final int BAD = Sentences.BAD, STATE = Sentences.STATE, NONE = Sentences.NONE;
    private static final int NOTHING = Sentences.NOTHING, BEYOND = Sentences.BEYOND;
    private static final int SIZE = Sentences.SIZE;
    private static final int MOST = Sentences.MOST, LEAST = Sentences.LEAST;
    private static final int TERMS = Doc.TERMS;

    private TextsSentences() {
    }

    static void tryAll(Sentences s) {
        termsADrumIsAText(s);
        termsBlanks(s);
        termsNoneWithinItems(s);
        termsTheFirstItem(s);
        termsThenWords(s);
        termsAPlace(s);
        termsAValue(s);
        termsWithAndNext(s);
        termsTheFirstPlace(s);
        termsNoneSuch(s);
        termsAPlaceThatIsTaken(s);
        termsASeventhWord(s);
        termsItsEndComesTooEarly(s);
        termsLessThan2Words(s);
        termsSomeWithIsNoWord(s);
        termsBlanksAlone(s);
        termsKindsAndLetters(s);
        promise8ATextOfBlanks(s);
        promise8BadAbove60(s);
        promise8SizeBelow0(s);
        promise9ByteIsV(s);
        promise9Bad(s);
        promise9Nothing(s);
        promise9Beyond(s);
        promise10AFault(s);
        promise10NoneThereIsNone(s);
        promise10Bad(s);
        promise10Nothing(s);
        promise11ADrumAnew(s);
        promise11Bad(s);
        promise11Nothing(s);
        promise11StateAFault(s);
        promise11StateBehindNothing(s);
    }

    /** The FAULT of a TEXT; NONE: it makes a DRUM, else drum() is refused. */
    private static void faults(Sentences s, int want, String text) {
        DrumWords x = new DrumWords();
        Check.tell(x, 0, text);
        s.due("fault of '" + text + "'", x.fault(0), want);
        int drum = x.drum(0);
        s.due("drum of '" + text + "'", drum == STATE ? 0 : 1, want == NONE ? 1 : 0);
    }

    private static void termsADrumIsAText(Sentences s) {
        s.about(TERMS, "A DRUM (without WORDS at first) is a TEXT");
        s.from(DrumWords::new).gives(0, "count", 0);
        s.refuses(STATE, "stops");
        s.from(Drums::wordless).gives(6, "drum", 0);
    }

    private static void termsBlanks(Sentences s) {
        s.about(TERMS, "blanks (32) ahead, between, behind as many as wanted");
        faults(s, NONE, "d6n000n100");
        faults(s, NONE, " d6n000n100");
        faults(s, NONE, "d6 n000n100");
        faults(s, NONE, "d6n000 n100");
        faults(s, NONE, "d6n000n100 ");
        faults(s, NONE, " ".repeat(50) + "d6n000n100");
        faults(s, NONE, "d6" + " ".repeat(50) + "n000n100");
        faults(s, NONE, "d6n000" + " ".repeat(50) + "n100");
        faults(s, NONE, "d6n000n100" + " ".repeat(50));
        faults(s, 0, "\td6n000n100");
        faults(s, 2, "d6\n000n100");
        faults(s, 6, "d6n000\0n100");
        faults(s, 10, "d6n000n100\240");
    }

    private static void termsNoneWithinItems(Sentences s) {
        s.about(TERMS, "none within items");
        faults(s, 1, "d 6n000n100");
        faults(s, 3, "d6n 000n100");
        faults(s, 4, "d6n0 00n100");
        faults(s, 5, "d6n00 0n100");
        faults(s, 3, "d6a 000n100");
        faults(s, 4, "d6a0 00n100");
        faults(s, 5, "d6a00 0n100");
        faults(s, 9, "d6n000n10 0");
    }

    private static void termsTheFirstItem(Sentences s) {
        s.about(TERMS, "The first item is d (100) and how many PLACES there are (6 .. 9, one figure;"
            + " PLACES are 0, 1, ..)");
        faults(s, 1, "d5n000n100");
        faults(s, NONE, "d6n000n500");
        faults(s, NONE, "d7n000n600");
        faults(s, NONE, "d8n000n700");
        faults(s, NONE, "d9n000n800");
        faults(s, 1, "d:n000n100");
        faults(s, 1, "d0n000n100");
        faults(s, 1, "d1n000n100");
        faults(s, 1, "d10n000n100");
        faults(s, 2, "d66n000n100");
        faults(s, 0, "cd6n000n100");
        faults(s, 0, "e6n000n100");
        faults(s, 0, "D6n000n100");
        faults(s, 0, "n000n100d6");
        faults(s, 2, "d6d6n000n100");
        for (int places = 6; places <= 9; places++) {
            s.from("d" + places + "n000n100").gives(places, "count", 1);
            s.gives(0, "move", 0, places - 1);
            s.refuses(BAD, "move", 0, places);
        }
    }

    private static void termsThenWords(Sentences s) {
        s.about(TERMS, "Then WORDS (2 to 6; 0, 1, .. as they come)");
        String words = "n811n722n633n544n455n366";
        faults(s, 2, "d9");
        faults(s, 6, "d9" + words.substring(0, 4));
        for (int n = 2; n <= 6; n++) {
            faults(s, NONE, "d9" + words.substring(0, 4 * n));
            s.from("d9" + words.substring(0, 4 * n)).gives(n, "count", 0);
        }
        faults(s, 26, "d9" + words + "n277");
        for (int i = 0; i < 6; i++) {
            s.asks(1, 8 - i, "word", i, 1);
            s.asks(1, 11 * i + 11, "word", i, 2);
        }
    }

    private static void termsAPlace(Sentences s) {
        s.about(TERMS, "a letter, a PLACE (one figure; at which no WORD ahead lies)");
        for (int places = 6; places <= 9; places++) {
            faults(s, NONE, "d" + places + "n" + (places - 1) + "00n000");
            if (places < 9) {
                faults(s, 3, "d" + places + "n" + places + "00n000");
            }
        }
        faults(s, 3, "d9n900n000");
        faults(s, 3, "d9n:00n000");
        faults(s, 3, "d9n/00n000");
        faults(s, 5, "d9a80 n000");
        faults(s, NONE, Drums.CROWDED);
        faults(s, 7, "d9n800n800");
        faults(s, 11, "d9n000n100n000");
        faults(s, 11, "d9n000n100n100");
        faults(s, 23, "d9n000n100n200n300n400n000");
    }

    private static void termsAValue(Sentences s) {
        s.about(TERMS, "then of a NUMBER its VALUE (two figures 00 .. 99)");
        int[] values = {0, 1, 9, 10, 49, 50, 90, 99};
        for (int v : values) {
            s.from("d6n0" + v / 10 + v % 10 + "n100").asks(1, v, "word", 0, 2);
        }
        faults(s, 4, "d6n0/0n100");
        faults(s, 4, "d6n0:0n100");
        faults(s, 5, "d6n00/n100");
        faults(s, 5, "d6n00:n100");
        faults(s, 5, "d6n00n100");
        faults(s, 6, "d6n0000n100");
        faults(s, 4, "d6n0-1n100");
    }

    private static void termsWithAndNext(Sentences s) {
        s.about(TERMS, "of all others WITH, NEXT (a WORD 0 .. 5 each, one figure; it need not be told"
            + " yet, but must be in the end)");
        for (char letter : "ajste".toCharArray()) {
            faults(s, 4, "d9" + letter + "060n1");
            faults(s, 5, "d9" + letter + "006n1");
            faults(s, 4, "d9" + letter + "0/0n1");
            faults(s, 5, "d9" + letter + "00/n1");
            faults(s, NONE, "d9" + letter + "000n100");
            faults(s, NONE, "d9" + letter + "011n100");
            faults(s, 10, "d9" + letter + "020n100");
            faults(s, 10, "d9" + letter + "002n100");
            faults(s, NONE, "d9" + letter + "022n100n200");
            faults(s, NONE, "d9" + letter + "055n100n200n300n400n500");
            faults(s, 22, "d9" + letter + "050n100n200n300n400");
            faults(s, 22, "d9" + letter + "005n100n200n300n400");
            s.from("d9" + letter + "045n100n200n300n400n500").asks(1, 4, "word", 0, 3);
            s.asks(1, 5, "word", 0, 4);
        }
    }

    private static void termsTheFirstPlace(Sentences s) {
        s.about(TERMS, "A FAULT is the first place at which it can't go on so");
        faults(s, 0, "xd5n900");
        faults(s, 1, "d5x");
        faults(s, 2, "d6x9");
        faults(s, 3, "d6n9x");
        faults(s, 7, "d6n000n0xx");
        faults(s, 6, "d6a055x");
        faults(s, 26, "d9a055n100n200n300n400n500n0");
        faults(s, 9, " d9 n000 x");
    }

    private static void termsNoneSuch(Sentences s) {
        s.about(TERMS, "a letter, a figure that is none such");
        for (char letter : "bcdfgiklmopqruvxyzNAJSTE06".toCharArray()) {
            faults(s, 2, "d6" + letter + "000n100");
            faults(s, 7, "d6 n000" + letter + "100");
        }
        faults(s, 3, "d6nn00n100");
        faults(s, 4, "d6n0n0n100");
        faults(s, 5, "d6n00an100");
    }

    private static void termsAPlaceThatIsTaken(Sentences s) {
        s.about(TERMS, "a PLACE that is taken");
        faults(s, 7, "d6n000n000");
        faults(s, 7, "d6n500n500");
        faults(s, 9, "d6 n000 n000");
        faults(s, 11, "d6n000n500n5");
        faults(s, NONE, "d6n000n500n400");
    }

    private static void termsASeventhWord(Sentences s) {
        s.about(TERMS, "a seventh WORD: its place");
        String six = "d9n000n100n200n300n400n500";
        faults(s, NONE, six);
        faults(s, 26, six + "n600");
        faults(s, 26, six + "n");
        faults(s, 29, six + "   n600");
        faults(s, 26, six + "x");
        faults(s, NONE, six + "   ");
    }

    private static void termsItsEndComesTooEarly(Sentences s) {
        s.about(TERMS, "the TEXT's size, if its end comes too early");
        String whole = "d6a010n199";
        for (int n = 0; n < whole.length(); n++) {
            faults(s, n, whole.substring(0, n));
            faults(s, 60, " ".repeat(60 - n) + whole.substring(0, n));
        }
        faults(s, NONE, whole);
        faults(s, NONE, " ".repeat(50) + whole);
    }

    private static void termsLessThan2Words(Sentences s) {
        s.about(TERMS, "or there are less than 2 WORDS");
        faults(s, 2, "d6");
        faults(s, 5, "d6   ");
        faults(s, 6, "d6n000");
        faults(s, 9, "d6 n000  ");
        faults(s, 6, "d6a000");
        faults(s, NONE, "d6n000n100");
    }

    private static void termsSomeWithIsNoWord(Sentences s) {
        s.about(TERMS, "or some WITH, NEXT is no WORD");
        faults(s, 10, "d6a020n100");
        faults(s, 10, "d6a002n100");
        faults(s, 10, "d6n000a120");
        faults(s, 12, "d6n000a102  ");
        faults(s, 10, "d6j020n100");
        faults(s, 14, "d6n000n100e203");
        faults(s, 60, "d6n000n100e203" + " ".repeat(46));
        faults(s, NONE, "d6n099n199");
    }

    private static void termsBlanksAlone(Sentences s) {
        s.about(TERMS, "or there are blanks alone");
        faults(s, 0, "");
        faults(s, 1, " ");
        faults(s, 2, "  ");
        faults(s, 60, " ".repeat(60));
    }

    private static void termsKindsAndLetters(Sentences s) {
        s.about(TERMS, "KINDS of WORDS and letters: 0 NUMBER (n, 110), 1 ADD (a, 97; a NUMBER), 2 JUMP"
            + " (j, 106; a NUMBER), 3 STORE (s, 115; an ADD), 4 TIMES (t, 116; an ADD), 5 TEST (e,"
            + " 101; a JUMP).");
        int[] letters = {110, 97, 106, 115, 116, 101};
        // what a WORD of the KIND also is: by rows its KIND, by columns what mark() asks for, 1 to 5
        String[] is = {".....", "1....", ".2...", "1.3..", "1..4.", ".2..5"};
        for (int kind = 0; kind < 6; kind++) {
            s.from("d6" + (char) letters[kind] + "000n100").asks(1, kind, "word", 0, 0);
            for (int asked = 1; asked <= 5; asked++) {
                if (is[kind].charAt(asked - 1) == '.') {
                    s.finds(Sentences.UNLIKE, "mark", 0, asked);
                } else {
                    s.aside(new int[] {0, 5, 5, 0, 2, 0}[asked], "mark", 0, asked);
                }
            }
        }
    }

    private static void promise8ATextOfBlanks(Sentences s) {
        s.about(8, "A TEXT is there with n blanks: n.");
        s.from(DrumWords::new).gives(0, "text", 0, 0);
        s.gives(1, "text", 1, 1);
        s.gives(60, "text", 3, 60);
        DrumWords x = new DrumWords();
        x.text(0, 60);
        x.text(1, 60);
        for (int i = 0; i < 60; i++) {
            s.due("byte " + i + " is blank", x.put(0, i, 100), 1032);
            x.put(1, i, 99);
        }
        s.due("a smaller one", x.text(0, 1), 1);
        s.due("it is blank", x.put(0, 0, 7), 1032);
        s.due("there are no more", x.put(0, 1, 7), Sentences.FINDING);
        s.due("as many as there may be", x.text(0, 60), 60);
        for (int i = 0; i < 60; i++) {
            s.due("byte " + i + " is blank anew", x.put(0, i, 100), 1032);
        }
        s.due("another TEXT stays", x.put(1, 59, 0), 1099);
        s.due("two TEXTS", x.count(9), 2);
        s.due("none", x.text(1, 0), 0);
        s.due("a TEXT of none is there", x.count(9), 2);
    }

    private static void promise8BadAbove60(Sentences s) {
        s.about(8, "BAD: also n above 60");
        s.from(Drums::rich).refuses(BAD, "text", 0, 61);
        s.refuses(BAD, "text", 0, MOST);
        s.refuses(BAD, "text", -1, 1);
        s.refuses(BAD, "text", 4, 1);
        s.refuses(BAD, "text", MOST, 1);
        s.refuses(BAD, "text", LEAST, 1);
        s.refuses(BAD, "text", -1, -1);
        s.refuses(BAD, "text", 4, -1);
        s.refuses(BAD, "text", 4, 61);
        s.gives(60, "text", 0, 60);
    }

    private static void promise8SizeBelow0(Sentences s) {
        s.about(8, "SIZE: below 0");
        s.from(Drums::rich).finds(SIZE, "text", 0, -1);
        s.finds(SIZE, "text", 3, -1);
        s.finds(SIZE, "text", 2, LEAST);
        s.gives(0, "text", 0, 0);
    }

    private static void cut(Sentences s, int v, int want) {
        DrumWords x = new DrumWords();
        x.text(0, 1);
        s.due("put(0, 0, " + v + ")", x.put(0, 0, v), 1032);
        s.due("what " + v + " was", x.put(0, 0, 0), want);
    }

    private static void promise9ByteIsV(Sentences s) {
        s.about(9, "Byte i of a TEXT is v, cut to a byte: what it was, and 1000 more.");
        cut(s, 0, 1000);
        cut(s, 127, 1127);
        cut(s, 128, 872);
        cut(s, 255, 999);
        cut(s, 256, 1000);
        cut(s, 257, 1001);
        cut(s, -1, 999);
        cut(s, -128, 872);
        cut(s, -129, 1127);
        cut(s, -256, 1000);
        cut(s, MOST, 999);
        cut(s, LEAST, 1000);
        s.from(Drums::wordless).gives(1100, "put", 0, 0, 1);
        s.gives(1050, "put", 0, 31, 1);
        s.gives(1032, "put", 2, 59, 1);
        DrumWords x = Drums.wordless();
        x.put(0, 0, 256 + 100);
        s.due("cut to the byte that it was", x.fault(0), NONE);
        s.due("the DRUM stays as it was read", x.drum(0) == 6 ? x.put(0, 0, 1) : 0, 1100);
        s.due("the DRUM stays as it was read", x.count(0), 6);
    }

    private static void promise9Bad(Sentences s) {
        s.about(9, "BAD");
        s.from(Drums::rich).refuses(BAD, "put", -1, 0, 1);
        s.refuses(BAD, "put", 4, 0, 1);
        s.refuses(BAD, "put", LEAST, -1, 1);
        s.refuses(BAD, "put", MOST, 60, 1);
    }

    private static void promise9Nothing(Sentences s) {
        s.about(9, "NOTHING");
        s.from(Drums::rich).finds(NOTHING, "put", 3, 0, 1);
        s.finds(NOTHING, "put", 3, -1, 1);
        s.finds(NOTHING, "put", 3, 60, 1);
        s.from(DrumWords::new).finds(NOTHING, "put", 0, 0, 1);
    }

    private static void promise9Beyond(Sentences s) {
        s.about(9, "BEYOND");
        s.from(Drums::rich).finds(BEYOND, "put", 0, -1, 1);
        s.finds(BEYOND, "put", 0, 32, 1);
        s.finds(BEYOND, "put", 1, 2, 1);
        s.finds(BEYOND, "put", 2, 60, 1);
        s.finds(BEYOND, "put", 2, MOST, 1);
        s.finds(BEYOND, "put", 2, LEAST, 1);
        s.gives(1054, "put", 1, 1, 1);
        s.gives(1032, "put", 2, 59, 1);
        s.from(TextsSentences::emptyText).finds(BEYOND, "put", 3, 0, 1);
    }

    private static DrumWords emptyText() {
        DrumWords x = Drums.rich();
        x.text(3, 0);
        return x;
    }

    private static void promise10AFault(Sentences s) {
        s.about(10, "A FAULT of a TEXT");
        s.from(Drums::rich).aside(2, "fault", 1);
        s.aside(60, "fault", 2);
        s.from(TextsSentences::emptyText).aside(0, "fault", 3);
    }

    private static void promise10NoneThereIsNone(Sentences s) {
        s.about(10, "NONE: there is none");
        s.from(Drums::rich).none("fault", 0);
        s.from(Drums::wordless).none("fault", 0);
    }

    private static void promise10Bad(Sentences s) {
        s.about(10, "BAD");
        s.from(Drums::rich).refuses(BAD, "fault", -1);
        s.refuses(BAD, "fault", 4);
        s.refuses(BAD, "fault", MOST);
        s.refuses(BAD, "fault", LEAST);
    }

    private static void promise10Nothing(Sentences s) {
        s.about(10, "NOTHING");
        s.from(Drums::rich).finds(NOTHING, "fault", 3);
        s.from(DrumWords::new).finds(NOTHING, "fault", 0);
    }

    private static void promise11ADrumAnew(Sentences s) {
        s.about(11, "A DRUM by a TEXT (anew: BEAT 0, SUM 0, WORD 0 due, no DEEDS; kept DRUMS go): how"
            + " many WORDS.");
        DrumWords x = Drums.rich();
        Check.tell(x, 3, "d9n811n722");
        s.due("drum(3)", x.drum(3), 2);
        int[] counts = {2, 9, 0, 0, 0, 0, 0, 0, 4, 4, 0};
        for (int what = 0; what < counts.length; what++) {
            s.due("count(" + what + ")", x.count(what), counts[what]);
        }
        for (int k = 0; k < 3; k++) {
            s.due("on(" + k + ")", x.on(k) == Sentences.FINDING ? x.finding() : 0, NOTHING);
        }
        s.due("no DEEDS to undo", x.undo(1), BAD);
        s.due("asked() stays", x.asked(), 5);
        s.due("upper() stays", x.upper(), Drums.rich().upper());
        DrumWords again = Drums.full();
        s.due("the same TEXT again", again.drum(0), 6);
        s.due("no DEEDS", again.count(2), 0);
        s.due("a STEP", again.step(), 6);
        s.due("its VALUE is as at first", again.count(4), 7);
        DrumWords stopped = Drums.stopped();
        s.due("of one that has STOPPED", stopped.drum(0), 2);
        s.due("WORD 0 is due", stopped.count(5), 0);
    }

    private static void promise11Bad(Sentences s) {
        s.about(11, "BAD");
        s.from(Drums::rich).refuses(BAD, "drum", -1);
        s.refuses(BAD, "drum", 4);
        s.refuses(BAD, "drum", MOST);
        s.refuses(BAD, "drum", LEAST);
    }

    private static void promise11Nothing(Sentences s) {
        s.about(11, "NOTHING");
        s.from(Drums::rich).finds(NOTHING, "drum", 3);
        s.from(DrumWords::new).finds(NOTHING, "drum", 0);
    }

    private static void promise11StateAFault(Sentences s) {
        s.about(11, "STATE: a FAULT.");
        s.from(Drums::rich).refuses(STATE, "drum", 1);
        s.refuses(STATE, "drum", 2);
        s.from(Drums::wordless).refuses(STATE, "drum", 1);
        s.from(TextsSentences::emptyText).refuses(STATE, "drum", 3);
    }

    private static void promise11StateBehindNothing(Sentences s) {
        s.about(11, "(STATE behind NOTHING.)");
        s.from(Drums::wordless).finds(NOTHING, "drum", 3);
        s.from(Drums::full).finds(NOTHING, "drum", 3);
    }
}
