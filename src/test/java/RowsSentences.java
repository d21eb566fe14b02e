import java.util.Arrays;

/** The sentences of promises 1 to 7: a new object, row, lay, at, tear, copy, mean. */
final class RowsSentences {
    private static final int BAD = Sentences.BAD, NONE = Sentences.NONE;
    private static final int NOTHING = Sentences.NOTHING, BEYOND = Sentences.BEYOND;
    private static final int NOUGHT = Sentences.NOUGHT, SIZE = Sentences.SIZE;
    private static final int MOST = Sentences.MOST, LEAST = Sentences.LEAST;

    private RowsSentences() {
    }

    static void tryAll(Sentences s) {
        promise1NoRowsTextsWords(s);
        promise2ARowOfZeros(s);
        promise2BadAbove40(s);
        promise2SizeBelow0(s);
        promise3PlaceIsV(s);
        promise3Bad(s);
        promise3Nothing(s);
        promise3Beyond(s);
        promise4Place(s);
        promise4Bad(s);
        promise4Nothing(s);
        promise4Beyond(s);
        promise5ARowIsMissing(s);
        promise5Bad(s);
        promise5Nothing(s);
        promise6AsIfTakenAhead(s);
        promise6NoneOneAll(s);
        promise6Bad(s);
        promise6SizeBelow0(s);
        promise6NothingEither(s);
        promise6BeyondNotSoMany(s);
        promise7MeanCut(s);
        promise7Bad(s);
        promise7Nothing(s);
        promise7Nought(s);
    }

    private static void promise1NoRowsTextsWords(Sentences s) {
        s.about(1, "No ROWS, TEXTS, WORDS.");
        int[] counts = {0, 0, 0, 0, 0, NONE, 0, 0, 0, 0, 0};
        s.from(DrumWords::new);
        for (int what = 0; what < counts.length; what++) {
            s.gives(counts[what], "count", what);
        }
        s.finds(NOTHING, "at", 0, 0);
        s.finds(NOTHING, "tear", 5);
        s.finds(NOTHING, "fault", 0);
        s.finds(NOTHING, "drum", 3);
        s.finds(NOTHING, "on", 0);
        s.finds(NOTHING, "on", 2);
        s.refuses(BAD, "word", 0, 0);
        s.gives(0, "undo", 0);
    }

    private static void promise2ARowOfZeros(Sentences s) {
        s.about(2, "A ROW is there with n ints 0: n.");
        s.from(DrumWords::new).gives(0, "row", 0, 0);
        s.gives(1, "row", 0, 1);
        s.gives(40, "row", 5, 40);
        DrumWords x = new DrumWords();
        x.row(0, 40);
        x.row(1, 40);
        for (int i = 0; i < 40; i++) {
            x.lay(0, i, 7);
            x.lay(1, i, 8);
        }
        s.due("a smaller one", x.row(0, 1), 1);
        s.holds(x, "of one 0", 0, 0);
        s.due("as many as there may be", x.row(0, 40), 40);
        s.holds(x, "of 40 times 0", 0, new int[40]);
        s.due("another ROW stays", Drums.ofRow(x, 1, 39), 8);
        s.due("two ROWS", x.count(8), 2);
        s.due("none", x.row(1, 0), 0);
        s.due("a ROW of none is there", x.count(8), 2);
        s.holds(x, "of none", 1);
    }

    private static void promise2BadAbove40(Sentences s) {
        s.about(2, "BAD: also n above 40");
        s.from(Drums::rich).refuses(BAD, "row", 0, 41);
        s.refuses(BAD, "row", 0, MOST);
        s.refuses(BAD, "row", -1, 1);
        s.refuses(BAD, "row", 6, 1);
        s.refuses(BAD, "row", MOST, 1);
        s.refuses(BAD, "row", LEAST, 1);
        s.refuses(BAD, "row", 6, 41);
        s.refuses(BAD, "row", -1, -1);
        s.refuses(BAD, "row", 6, -1);
        s.gives(40, "row", 0, 40);
    }

    private static void promise2SizeBelow0(Sentences s) {
        s.about(2, "SIZE: below 0");
        s.from(Drums::rich).finds(SIZE, "row", 0, -1);
        s.finds(SIZE, "row", 5, LEAST);
        s.finds(SIZE, "row", 4, -1);
        s.gives(0, "row", 0, 0);
    }

    private static void promise3PlaceIsV(Sentences s) {
        s.about(3, "Place i of a ROW is v: what it was, told by asked(): 1.");
        s.from(Drums::wordless).asks(1, 3, "lay", 0, 0, 1);
        s.asks(1, 9, "lay", 0, 2, 1);
        s.asks(1, -7, "lay", 2, 39, 1);
        DrumWords x = Drums.wordless();
        x.lay(0, 1, MOST);
        s.holds(x, "others stay", 0, 3, MOST, 9);
        s.due("lay(0, 1, least)", x.lay(0, 1, LEAST), 1);
        s.due("the greatest int", x.asked(), MOST);
        s.due("lay(0, 1, -1)", x.lay(0, 1, -1), 1);
        s.due("the least int", x.asked(), LEAST);
        s.holds(x, "the latest", 0, 3, -1, 9);
    }

    private static void promise3Bad(Sentences s) {
        s.about(3, "BAD");
        s.from(Drums::rich).refuses(BAD, "lay", -1, 0, 1);
        s.refuses(BAD, "lay", 6, 0, 1);
        s.refuses(BAD, "lay", LEAST, -1, 1);
        s.refuses(BAD, "lay", MOST, 40, 1);
    }

    private static void promise3Nothing(Sentences s) {
        s.about(3, "NOTHING");
        s.from(Drums::rich).finds(NOTHING, "lay", 4, 0, 1);
        s.finds(NOTHING, "lay", 5, 0, 1);
        s.finds(NOTHING, "lay", 4, -1, 1);
        s.finds(NOTHING, "lay", 4, 40, 1);
    }

    private static void promise3Beyond(Sentences s) {
        s.about(3, "BEYOND");
        s.from(Drums::rich).finds(BEYOND, "lay", 0, -1, 1);
        s.finds(BEYOND, "lay", 0, 3, 1);
        s.finds(BEYOND, "lay", 1, 0, 1);
        s.finds(BEYOND, "lay", 3, 1, 1);
        s.finds(BEYOND, "lay", 2, 40, 1);
        s.finds(BEYOND, "lay", 2, MOST, 1);
        s.finds(BEYOND, "lay", 2, LEAST, 1);
        s.gives(1, "lay", 0, 0, 1);
        s.gives(1, "lay", 0, 2, 1);
        s.gives(1, "lay", 3, 0, 1);
        s.gives(1, "lay", 2, 39, 1);
    }

    private static void promise4Place(Sentences s) {
        s.about(4, "Place i of a ROW, told by asked(): 1.");
        s.from(Drums::wordless).asks(1, 3, "at", 0, 0);
        s.asks(1, 4, "at", 0, 1);
        s.asks(1, 9, "at", 0, 2);
        s.asks(1, -7, "at", 2, 39);
        s.asks(1, 0, "at", 2, 38);
        s.from(Drums::rich).aside(1, "at", 0, 2);
    }

    private static void promise4Bad(Sentences s) {
        s.about(4, "BAD");
        s.from(Drums::rich).refuses(BAD, "at", -1, 0);
        s.refuses(BAD, "at", 6, 0);
        s.refuses(BAD, "at", LEAST, -1);
        s.refuses(BAD, "at", MOST, 40);
    }

    private static void promise4Nothing(Sentences s) {
        s.about(4, "NOTHING");
        s.from(Drums::rich).finds(NOTHING, "at", 4, 0);
        s.finds(NOTHING, "at", 5, 0);
        s.finds(NOTHING, "at", 4, -1);
        s.finds(NOTHING, "at", 4, 40);
    }

    private static void promise4Beyond(Sentences s) {
        s.about(4, "BEYOND");
        s.from(Drums::rich).finds(BEYOND, "at", 0, -1);
        s.finds(BEYOND, "at", 0, 3);
        s.finds(BEYOND, "at", 1, 0);
        s.finds(BEYOND, "at", 3, 1);
        s.finds(BEYOND, "at", 2, 40);
        s.finds(BEYOND, "at", 2, MOST);
        s.finds(BEYOND, "at", 2, LEAST);
        s.gives(1, "at", 2, 39);
        s.gives(1, "at", 3, 0);
    }

    private static void promise5ARowIsMissing(Sentences s) {
        s.about(5, "A ROW is missing: 1.");
        s.from(Drums::rich).gives(1, "tear", 0);
        s.gives(1, "tear", 1);
        s.gives(1, "tear", 2);
        DrumWords x = new DrumWords();
        for (int r = 0; r < 6; r++) {
            Check.lay(x, r, r);
        }
        for (int r = 0; r < 6; r++) {
            s.due("tear(" + r + ")", x.tear(r), 1);
            s.due("a ROW less", x.count(8), 5 - r);
            s.due("it is missing", x.at(r, 0) == Sentences.FINDING ? x.finding() : 0, NOTHING);
            for (int other = r + 1; other < 6; other++) {
                s.due("another one stays", Drums.ofRow(x, other, 0), other);
            }
        }
        x.row(0, 1);
        s.holds(x, "there again, of 0", 0, 0);
    }

    private static void promise5Bad(Sentences s) {
        s.about(5, "BAD");
        s.from(Drums::rich).refuses(BAD, "tear", -1);
        s.refuses(BAD, "tear", 6);
        s.refuses(BAD, "tear", MOST);
        s.refuses(BAD, "tear", LEAST);
    }

    private static void promise5Nothing(Sentences s) {
        s.about(5, "NOTHING");
        s.from(Drums::rich).finds(NOTHING, "tear", 4);
        s.finds(NOTHING, "tear", 5);
    }

    /** ROW 0 is 1 .. 5, ROW 1 is 9, 9, 9, ROW 2 of 40 goes from 100 on, ROW 3 is of none. */
    private static DrumWords rows() {
        DrumWords x = new DrumWords();
        Check.lay(x, 0, 1, 2, 3, 4, 5);
        Check.lay(x, 1, 9, 9, 9);
        x.row(2, 40);
        for (int i = 0; i < 40; i++) {
            x.lay(2, i, 100 + i);
        }
        x.row(3, 0);
        return x;
    }

    private static void copied(Sentences s, int[] numbers, int... wanted) {
        DrumWords x = rows();
        String call = Arrays.toString(numbers);
        s.due("copy " + call, x.copy(numbers[0], numbers[1], numbers[2], numbers[3], numbers[4]), 1);
        s.holds(x, "copy " + call, numbers[2], wanted);
        if (numbers[0] != numbers[2]) {
            s.due("the first one stays", Drums.ofRow(x, 0, 0), 1);
        }
    }

    private static void promise6AsIfTakenAhead(Sentences s) {
        s.about(6, "n places of a ROW, from one on, come to those of another one (perhaps itself) from"
            + " one on, as if taken ahead: 1.");
        copied(s, new int[] {0, 0, 1, 0, 3}, 1, 2, 3);
        copied(s, new int[] {0, 2, 1, 0, 3}, 3, 4, 5);
        copied(s, new int[] {0, 4, 1, 2, 1}, 9, 9, 5);
        copied(s, new int[] {0, 1, 1, 1, 2}, 9, 2, 3);
        copied(s, new int[] {0, 0, 0, 1, 4}, 1, 1, 2, 3, 4);
        copied(s, new int[] {0, 1, 0, 0, 4}, 2, 3, 4, 5, 5);
        copied(s, new int[] {0, 0, 0, 2, 3}, 1, 2, 1, 2, 3);
        copied(s, new int[] {0, 2, 0, 0, 3}, 3, 4, 5, 4, 5);
        copied(s, new int[] {0, 0, 0, 0, 5}, 1, 2, 3, 4, 5);
    }

    private static void promise6NoneOneAll(Sentences s) {
        s.about(6, "n places of a ROW");
        copied(s, new int[] {0, 0, 1, 0, 0}, 9, 9, 9);
        copied(s, new int[] {0, 5, 1, 3, 0}, 9, 9, 9);
        copied(s, new int[] {3, 0, 1, 0, 0}, 9, 9, 9);
        copied(s, new int[] {3, 0, 3, 0, 0});
        DrumWords x = rows();
        x.row(5, 40);
        s.due("as many as there may be", x.copy(2, 0, 5, 0, 40), 1);
        for (int i = 0; i < 40; i++) {
            s.due("place " + i, Drums.ofRow(x, 5, i), 100 + i);
        }
        s.from(Drums::rich).leaves("copy", 0, 0, 0, 0, 3);
    }

    private static void promise6Bad(Sentences s) {
        s.about(6, "BAD");
        s.from(Drums::rich).refuses(BAD, "copy", -1, 0, 0, 0, 1);
        s.refuses(BAD, "copy", 6, 0, 0, 0, 1);
        s.refuses(BAD, "copy", 0, 0, -1, 0, 1);
        s.refuses(BAD, "copy", 0, 0, 6, 0, 1);
        s.refuses(BAD, "copy", 0, 0, 6, 0, -1);
        s.refuses(BAD, "copy", 4, 0, 6, 0, 1);
        s.refuses(BAD, "copy", 6, 0, 4, 0, 1);
        s.refuses(BAD, "copy", 0, 3, 6, 0, 1);
        s.refuses(BAD, "copy", MOST, MOST, LEAST, LEAST, LEAST);
    }

    private static void promise6SizeBelow0(Sentences s) {
        s.about(6, "SIZE: n below 0");
        s.from(Drums::rich).finds(SIZE, "copy", 0, 0, 2, 0, -1);
        s.finds(SIZE, "copy", 0, 0, 2, 0, LEAST);
        s.finds(SIZE, "copy", 4, 0, 2, 0, -1);
        s.finds(SIZE, "copy", 0, 0, 4, 0, -1);
        s.finds(SIZE, "copy", 0, 99, 2, -99, -1);
        s.finds(SIZE, "copy", 4, -1, 5, 99, -1);
    }

    private static void promise6NothingEither(Sentences s) {
        s.about(6, "NOTHING: either");
        s.from(Drums::rich).finds(NOTHING, "copy", 4, 0, 0, 0, 1);
        s.finds(NOTHING, "copy", 0, 0, 4, 0, 1);
        s.finds(NOTHING, "copy", 4, 0, 5, 0, 1);
        s.finds(NOTHING, "copy", 4, 0, 4, 0, 0);
        s.finds(NOTHING, "copy", 4, 0, 0, 3, 1);
        s.finds(NOTHING, "copy", 0, 3, 4, 0, 1);
    }

    private static void promise6BeyondNotSoMany(Sentences s) {
        s.about(6, "BEYOND: not so many there.");
        s.from(Drums::rich).finds(BEYOND, "copy", 0, 0, 2, 0, 4);
        s.finds(BEYOND, "copy", 0, 1, 2, 0, 3);
        s.finds(BEYOND, "copy", 0, 3, 2, 0, 1);
        s.finds(BEYOND, "copy", 0, -1, 2, 0, 1);
        s.finds(BEYOND, "copy", 2, 0, 0, 0, 4);
        s.finds(BEYOND, "copy", 2, 0, 0, 1, 3);
        s.finds(BEYOND, "copy", 2, 0, 0, 3, 1);
        s.finds(BEYOND, "copy", 2, 0, 0, -1, 1);
        s.finds(BEYOND, "copy", 2, 0, 2, 0, 41);
        s.finds(BEYOND, "copy", 1, 0, 2, 0, 1);
        s.finds(BEYOND, "copy", 0, MOST, 2, MOST, MOST);
        s.finds(BEYOND, "copy", 0, 2, 2, 0, MOST);
        s.finds(BEYOND, "copy", 0, LEAST, 2, LEAST, MOST);
        s.gives(1, "copy", 0, 0, 2, 0, 3);
        s.gives(1, "copy", 0, 2, 2, 39, 1);
        s.gives(1, "copy", 2, 37, 0, 0, 3);
        s.gives(1, "copy", 0, 3, 2, 40, 0);
    }

    private static void means(Sentences s, int mean, int... numbers) {
        DrumWords x = new DrumWords();
        Check.lay(x, 0, numbers);
        String of = Arrays.toString(numbers);
        s.due("of " + of, x.mean(0), 1);
        s.due("of " + of + ", asked()", x.asked(), mean);
    }

    private static void promise7MeanCut(Sentences s) {
        s.about(7, "The mean of a ROW's ints, cut, told by asked(): 1.");
        means(s, 7, 7);
        means(s, -7, -7);
        means(s, 3, 3, 4);
        means(s, -3, -3, -4);
        means(s, 0, 0, 1, 1);
        means(s, 0, 0, -1, -1);
        means(s, 1, 1, 1, 1);
        means(s, MOST, MOST, MOST, MOST);
        means(s, LEAST, LEAST, LEAST, LEAST);
        means(s, 0, MOST, LEAST);
        DrumWords x = new DrumWords();
        x.row(0, 40);
        x.lay(0, 0, 20);
        x.lay(0, 39, 19);
        s.due("39 by 40", x.mean(0) == 1 ? x.asked() : NONE, 0);
        x.lay(0, 39, 20);
        s.due("40 by 40", x.mean(0) == 1 ? x.asked() : NONE, 1);
        s.from(Drums::rich).aside(1, "mean", 0);
    }

    private static void promise7Bad(Sentences s) {
        s.about(7, "BAD");
        s.from(Drums::rich).refuses(BAD, "mean", -1);
        s.refuses(BAD, "mean", 6);
        s.refuses(BAD, "mean", MOST);
        s.refuses(BAD, "mean", LEAST);
    }

    private static void promise7Nothing(Sentences s) {
        s.about(7, "NOTHING");
        s.from(Drums::rich).finds(NOTHING, "mean", 4);
        s.finds(NOTHING, "mean", 5);
    }

    private static void promise7Nought(Sentences s) {
        s.about(7, "NOUGHT");
        s.from(Drums::rich).finds(NOUGHT, "mean", 1);
        s.gives(1, "mean", 3);
    }
}
