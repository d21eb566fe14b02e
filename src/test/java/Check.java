/** Counts answers that are not as due, and ends a test by its exit code. */
final class Check {
    private final String name;
    private int looked = 0;
    private int wrong = 0;

    Check(String name) {
        this.name = name;
    }

    void due(String what, long got, long want) {
        looked++;
        if (got != want) {
            wrong++;
            System.out.println(name + ": " + what + " answered " + got + ", due is " + want);
        }
    }

    /** A call that is refused by a FINDING, and tells which. */
    void dueFinding(DrumWords x, String what, int got, int finding) {
        due(what, got, DrumWords.FINDING);
        due(what + ", finding()", x.finding(), finding);
    }

    /** A call that answers 1 and tells by asked(). */
    void dueAsked(DrumWords x, String what, int got, int asked) {
        dueAsked(x, what, got, 1, asked);
    }

    void dueAsked(DrumWords x, String what, int got, int want, int asked) {
        due(what, got, want);
        due(what + ", asked()", x.asked(), asked);
    }

    void dueShare(DrumWords x, String what, int got, int want, long[] share) {
        due(what, got, want);
        due(what + ", upper()", x.upper(), share[0]);
        due(what + ", lower()", x.lower(), share[1]);
    }

    static long[] share(long upper, long lower) {
        return new long[] {upper, lower};
    }

    void dueRow(DrumWords x, String what, int r, int... wanted) {
        for (int i = 0; i < wanted.length; i++) {
            due(what + ", at(" + r + ", " + i + ")", x.at(r, i), 1);
            due(what + ", at(" + r + ", " + i + "), asked()", x.asked(), wanted[i]);
        }
        due(what + ", behind the ROW", x.at(r, wanted.length), DrumWords.FINDING);
    }

    static void tell(DrumWords x, int t, String text) {
        x.text(t, text.length());
        for (int i = 0; i < text.length(); i++) {
            x.put(t, i, text.charAt(i));
        }
    }

    static DrumWords drumOf(String text) {
        DrumWords x = new DrumWords();
        tell(x, 0, text);
        if (x.drum(0) < 0) {
            throw new IllegalStateException("no DRUM by '" + text + "'");
        }
        return x;
    }

    static void lay(DrumWords x, int r, int... numbers) {
        x.row(r, numbers.length);
        for (int i = 0; i < numbers.length; i++) {
            x.lay(r, i, numbers[i]);
        }
    }

    void stopIfWrong() {
        if (wrong != 0) {
            System.exit(1);
        }
    }

    void end() {
        System.out.println(name + ": " + looked + " answers, " + wrong + " not as due");
        if (wrong != 0 || looked == 0) {
            System.exit(1);
        }
    }
}
