import java.lang.reflect.Method;
import java.util.Arrays;
import java.util.Random;

/** Long runs of calls by fixed seeds: each answer is held against the slow model. */
public final class ModelTest {
    private static final int RUNS = 400, CALLS = 500;

    /** A call's name, how often it comes, and from where to where each of its numbers goes. */
    private record Call(String name, int weight, int... bounds) { }

    private static final Call[] CALLS_TO_MAKE = {
        new Call("row", 2, 0, 5, 0, 40), new Call("lay", 4, 0, 5, 0, 6, -9, 1010),
        new Call("at", 3, 0, 5, 0, 8), new Call("tear", 1, 0, 5),
        new Call("copy", 3, 0, 5, 0, 6, 0, 5, 0, 6, 0, 6), new Call("mean", 2, 0, 5),
        new Call("text", 1, 0, 3, 0, 60), new Call("put", 2, 0, 3, 0, 30, -200, 300),
        new Call("fault", 2, 0, 3), new Call("drum", 1, 0, 3),
        new Call("word", 4, 0, 5, 0, 5), new Call("mark", 5, 0, 5, 1, 5),
        new Call("waits", 2, 0, 5, 0, 999), new Call("step", 12), new Call("move", 3, 0, 5, 0, 8),
        new Call("swap", 3, 0, 5, 0, 5), new Call("value", 4, 0, 5, 0, 99),
        new Call("undo", 2, 0, 40), new Call("keep", 2, 0, 2), new Call("on", 2, 0, 2),
        new Call("takes", 3, 0, 40), new Call("idle", 3, 0, 40), new Call("stops", 2),
        new Call("when", 4, 0, 5, 0, 99), new Call("place", 3, 0, 5, 0, 40),
        new Call("best", 3, 0, 40), new Call("least", 1, 0, 12, 0, 5),
        new Call("clerk", 3, 0, 12, 0, 5), new Call("lies", 3, 0, 5, 0, 5),
        new Call("kinds", 3, 0, 5, 0, 5), new Call("watch", 3, 0, 5), new Call("duel", 2, 0, 3),
        new Call("odds", 4, 0, 3, 0, 120, 0, 12), new Call("mid", 3, 0, 3, 0, 12),
        new Call("lots", 2, 1, 20, 1, 2147483646), new Call("count", 4, 0, 10),
        new Call("findings", 2, 1, 5), new Call("digest", 1)};

    private final Check check = new Check("ModelTest");
    private final Random random;
    private final DrumWords x = new DrumWords();
    private final Model model = new Model();
    private static long answers = 0;

    private ModelTest(int seed) {
        random = new Random(seed);
    }

    public static void main(String[] args) throws Exception {
        for (int seed = 0; seed < RUNS; seed++) {
            ModelTest test = new ModelTest(seed);
            test.run(seed);
        }
        System.out.println("ModelTest: " + answers + " answers as the model's");
    }

    private void run(int seed) throws Exception {
        for (int k = 0; k < CALLS; k++) {
            int lot = random.nextInt(100);
            if (lot < 1 || k == 10) {
                tellDrum();
            } else if (lot < 3 && model.moment() != null) {
                layTimes();
            } else {
                Call call = pick();
                int[] numbers = new int[call.bounds().length / 2];
                for (int a = 0; a < numbers.length; a++) {
                    numbers[a] = number(call.bounds()[2 * a], call.bounds()[2 * a + 1]);
                }
                both(call.name(), numbers);
            }
        }
        both("digest");
        both("finding");
    }

    private Call pick() {
        int all = Arrays.stream(CALLS_TO_MAKE).mapToInt(Call::weight).sum();
        int lot = random.nextInt(all);
        int k = 0;
        while (lot >= CALLS_TO_MAKE[k].weight()) {
            lot -= CALLS_TO_MAKE[k].weight();
            k++;
        }
        return CALLS_TO_MAKE[k];
    }

    private int number(int low, int high) {
        int lot = random.nextInt(60);
        if (lot == 0) {
            return low - 1;
        }
        if (lot == 1) {
            return high + 1;
        }
        if (lot == 2) {
            return random.nextInt();
        }
        return lot < 6 ? high : low + random.nextInt(high - low + 1);
    }

    private long answerOf(Object object, String name, int[] numbers) throws Exception {
        Class<?>[] types = new Class<?>[numbers.length];
        Arrays.fill(types, int.class);
        Method method = object.getClass().getDeclaredMethod(name, types);
        method.setAccessible(true);
        Object[] boxed = Arrays.stream(numbers).boxed().toArray();
        return ((Number) method.invoke(object, boxed)).longValue();
    }

    private void both(String name, int... numbers) throws Exception {
        String call = name + Arrays.toString(numbers);
        check.due(call, answerOf(x, name, numbers), answerOf(model, name, numbers));
        check.due(call + ", asked()", x.asked(), model.asked());
        check.due(call + ", upper()", x.upper(), model.upper());
        check.due(call + ", lower()", x.lower(), model.lower());
        check.due(call + ", finding()", x.finding(), model.finding());
        check.due(call + ", digest()", x.digest(), model.digest());
        answers += 6;
        check.stopIfWrong();
    }

    private void tellDrum() throws Exception {
        String text = drumText();
        int t = random.nextInt(4);
        both("text", t, text.length());
        for (int i = 0; i < text.length(); i++) {
            both("put", t, i, text.charAt(i));
        }
        if (random.nextInt(3) == 0 && !text.isEmpty()) {
            both("put", t, random.nextInt(text.length()), "najstedx 0123456789".charAt(random.nextInt(19)));
        }
        both("fault", t);
        both("drum", t);
    }

    private String blanks() {
        return "  ".substring(random.nextInt(3));
    }

    private String drumText() {
        int places = 6 + random.nextInt(4);
        int words = 2 + random.nextInt(5);
        StringBuilder text = new StringBuilder(blanks()).append('d').append(places);
        int taken = 0;
        for (int i = 0; i < words; i++) {
            int spot = random.nextInt(places);
            while ((taken >> spot & 1) == 1) {
                spot = (spot + 1) % places;
            }
            taken |= 1 << spot;
            char letter = "najsteajstea".charAt(random.nextInt(i == 0 ? 12 : 10));
            text.append(blanks()).append(letter).append(spot);
            if (letter == 'n') {
                text.append(random.nextInt(10)).append(random.nextInt(10));
            } else {
                text.append(random.nextInt(words)).append(random.nextInt(words));
            }
        }
        return text.append(blanks()).toString();
    }

    /** Lays the beats at which STEPS would truly be done, were one WORD perhaps elsewhere. */
    private void layTimes() throws Exception {
        Model.Moment m = model.moment();
        int i = random.nextInt(m.words);
        int spot = m.open(i).get(random.nextInt(m.open(i).size()));
        Model.Moment other = m.with(i, spot);
        int r = random.nextInt(6);
        int n = 1 + random.nextInt(6);
        both("row", r, n);
        for (int s = 1; s <= n; s++) {
            both("lay", r, s - 1, other.beats(s));
        }
        for (int w = 0; w < m.words; w++) {
            both("lies", w, r);
            both("kinds", w, r);
        }
    }
}
