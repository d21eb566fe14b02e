import java.lang.reflect.InvocationTargetException;
import java.lang.reflect.Method;
import java.util.Arrays;
import java.util.function.Supplier;

/**
 * Tries sentences of the document. about() names one by its promise and its own words; each call
 * behind it is made on an object of its own, so that no try hangs on another one.
 */
final class Sentences {
    static final int BAD = DrumWords.BAD, FULL = DrumWords.FULL, FINDING = DrumWords.FINDING;
    static final int STATE = DrumWords.STATE, SPENT = DrumWords.SPENT, NONE = DrumWords.NONE;
    static final int NOTHING = 1, BEYOND = 2, UNLIKE = 3, NOUGHT = 4, SIZE = 5;
    static final int MOST = Integer.MAX_VALUE, LEAST = Integer.MIN_VALUE;

    private final Check check = new Check("SentencesTest");
    private final Doc doc;
    private String sentence = "";
    private Supplier<DrumWords> maker = DrumWords::new;

    Sentences(Doc doc) {
        this.doc = doc;
    }

    void about(int promise, String words) {
        String where = promise == Doc.TERMS ? "Terms" : "Promise " + promise;
        sentence = (promise == Doc.WHAT_IT_IS ? "What it is" : where) + ", \"" + words + "\": ";
        check.due(sentence + "it stands in the document", doc.quote(promise, words) ? 1 : 0, 1);
        maker = () -> {
            throw new IllegalStateException(sentence + "from() is missing");
        };
    }

    /** The objects on which the calls to come are made. */
    Sentences from(Supplier<DrumWords> made) {
        maker = made;
        return this;
    }

    Sentences from(String text) {
        return from(() -> Check.drumOf(text));
    }

    void due(String what, long got, long want) {
        check.due(sentence + what, got, want);
    }

    void gives(long want, String name, int... numbers) {
        due(told(name, numbers), answer(maker.get(), name, numbers), want);
    }

    /** It answers so, and tells so by asked(). */
    void asks(long want, int asked, String name, int... numbers) {
        DrumWords x = maker.get();
        due(told(name, numbers), answer(x, name, numbers), want);
        due(told(name, numbers) + ", asked()", x.asked(), asked);
    }

    /** It answers so, and tells so by upper(), lower(). */
    void shares(long want, long upper, long lower, String name, int... numbers) {
        DrumWords x = maker.get();
        due(told(name, numbers), answer(x, name, numbers), want);
        due(told(name, numbers) + ", upper()", x.upper(), upper);
        due(told(name, numbers) + ", lower()", x.lower(), lower);
    }

    /** It answers so, and the ROW holds just these then. */
    void lays(long want, int[] wanted, String name, int... numbers) {
        DrumWords x = maker.get();
        due(told(name, numbers), answer(x, name, numbers), want);
        holds(x, told(name, numbers), numbers[numbers.length - 1], wanted);
    }

    void holds(DrumWords x, String what, int r, int... wanted) {
        for (int i = 0; i < wanted.length; i++) {
            due(what + ", at(" + r + ", " + i + ")", x.at(r, i), 1);
            due(what + ", at(" + r + ", " + i + "), asked()", x.asked(), wanted[i]);
        }
        due(what + ", behind the ROW", x.at(r, wanted.length), FINDING);
    }

    /** It is refused without a FINDING: nothing at all changes. */
    void refuses(int want, String name, int... numbers) {
        DrumWords x = maker.get();
        DrumWords same = maker.get();
        due(told(name, numbers), answer(x, name, numbers), want);
        due(told(name, numbers) + " leaves finding()", x.finding(), same.finding());
        for (int f = 1; f <= SIZE; f++) {
            due(told(name, numbers) + " leaves findings(" + f + ")", x.findings(f), same.findings(f));
        }
        dueSame(x, same, told(name, numbers), true);
    }

    /** It is refused by a FINDING: nothing but finding(), findings() changes. */
    void finds(int finding, String name, int... numbers) {
        DrumWords x = maker.get();
        DrumWords same = maker.get();
        due(told(name, numbers), answer(x, name, numbers), FINDING);
        due(told(name, numbers) + ", finding()", x.finding(), finding);
        for (int f = 1; f <= SIZE; f++) {
            int more = f == finding ? 1 : 0;
            due(told(name, numbers) + ", findings(" + f + ")", x.findings(f), same.findings(f) + more);
        }
        dueSame(x, same, told(name, numbers), true);
    }

    /** It answers so, and changes nothing but what asked(), upper(), lower() tell. */
    void aside(long want, String name, int... numbers) {
        gives(want, name, numbers);
        leaves(name, numbers);
    }

    void leaves(String name, int... numbers) {
        DrumWords x = maker.get();
        DrumWords same = maker.get();
        answer(x, name, numbers);
        due(told(name, numbers) + " leaves finding()", x.finding(), same.finding());
        dueSame(x, same, told(name, numbers), false);
    }

    /** Answers NONE, and leaves what asked(), upper(), lower() told. */
    void none(String name, int... numbers) {
        DrumWords x = maker.get();
        DrumWords same = maker.get();
        due(told(name, numbers), answer(x, name, numbers), NONE);
        dueSame(x, same, told(name, numbers), true);
    }

    /** A call with how many (0 to most) alone: BAD, ahead of it STATE without WORDS. */
    void refusesByHowMany(int promise, String name, int most) {
        about(promise, "BAD");
        for (int n : new int[] {-1, most + 1, MOST, LEAST}) {
            from(Drums::rich).refuses(BAD, name, n);
            from(Drums::wordless).refuses(BAD, name, n);
        }
        about(promise, "STATE: no WORDS.");
        for (int n : new int[] {0, 1, most}) {
            from(Drums::wordless).refuses(STATE, name, n);
            from(DrumWords::new).refuses(STATE, name, n);
        }
    }

    /** Two objects are alike, their DEEDS one by one and kept DRUMS, too; both are used up by it. */
    void dueSame(DrumWords x, DrumWords same, String what, boolean toldToo) {
        if (toldToo) {
            due(what + " leaves asked()", x.asked(), same.asked());
            due(what + " leaves upper()", x.upper(), same.upper());
            due(what + " leaves lower()", x.lower(), same.lower());
        }
        due(what + " leaves all", x.digest(), same.digest());
        dueSameDeeds(x, same, what + " leaves DEEDS");
        for (int k = 0; k < 3; k++) {
            due(what + " leaves kept DRUM " + k, x.on(k), same.on(k));
            dueSameDeeds(x, same, what + " leaves kept DRUM " + k);
        }
    }

    private void dueSameDeeds(DrumWords x, DrumWords same, String what) {
        for (int n = same.count(2); n >= 0; n--) {
            due(what + ", undo(" + n + ")", x.undo(n), same.undo(n));
            due(what + ", digest() behind undo(" + n + ")", x.digest(), same.digest());
        }
    }

    private static String told(String name, int[] numbers) {
        return name + Arrays.toString(numbers).replace('[', '(').replace(']', ')');
    }

    private static long answer(DrumWords x, String name, int[] numbers) {
        Class<?>[] types = new Class<?>[numbers.length];
        Arrays.fill(types, int.class);
        try {
            Method method = DrumWords.class.getMethod(name, types);
            return ((Number) method.invoke(x, Arrays.stream(numbers).boxed().toArray())).longValue();
        } catch (InvocationTargetException e) {
            throw new IllegalStateException(told(name, numbers) + " threw", e.getCause());
        } catch (ReflectiveOperationException e) {
            throw new IllegalStateException("no such call: " + told(name, numbers), e);
        }
    }

    /** Each sentence of the terms and the promises has been tried. */
    void end() {
        for (int p = Doc.TERMS; p <= Doc.PROMISES; p++) {
            String left = doc.unquoted(p);
            check.due((p == Doc.TERMS ? "Terms" : "Promise " + p) + ", no test quotes: " + left,
                left.length(), 0);
        }
        check.end();
    }
}
