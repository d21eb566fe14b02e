import java.lang.reflect.InvocationTargetException;
import java.lang.reflect.Method;
import java.lang.reflect.Modifier;
import java.util.Arrays;
import java.util.Comparator;

/** Numbers of all sizes, in all states: no call ever throws, and what is refused changes nothing. */
public final class ExtremesTest {
    private static final int[] NUMBERS = {
        Integer.MIN_VALUE, -41, -1, 0, 1, 2, 3, 5, 6, 9, 13, 21, 40, 41, 61, 999, 1000, Integer.MAX_VALUE};
    private static final int[] FEW = {Integer.MIN_VALUE, -1, 0, 1, 5, 41, Integer.MAX_VALUE};

    private final Check check = new Check("ExtremesTest");

    public static void main(String[] args) throws Exception {
        ExtremesTest test = new ExtremesTest();
        Method[] methods = DrumWords.class.getDeclaredMethods();
        Arrays.sort(methods, Comparator.comparing(Method::getName));
        for (Method method : methods) {
            if (Modifier.isPublic(method.getModifiers())) {
                for (int state = 0; state < 5; state++) {
                    int many = method.getParameterCount();
                    test.tryAll(method, state, new int[many], 0, many > 3 ? FEW : NUMBERS);
                }
            }
        }
        test.check.end();
    }

    private static DrumWords inState(int state) {
        if (state == 0) {
            return new DrumWords();
        }
        DrumWords x = Check.drumOf(state == 1 ? "d6 n000 n199" : "d9 a041 t152 e213 s640 n307 n799");
        Check.lay(x, 0, 6, 21);
        Check.lay(x, 1, Integer.MAX_VALUE, Integer.MIN_VALUE);
        x.row(5, 40);
        x.text(1, 60);
        x.text(2, 0);
        if (state == 1) {
            x.step();
        }
        if (state >= 3) {
            x.keep(1);
            x.lots(20, 5);
        }
        if (state == 4) {
            x.lots(20, 6);
        }
        return x;
    }

    private void tryAll(Method method, int state, int[] numbers, int k, int[] from) throws Exception {
        if (k < numbers.length) {
            for (int number : from) {
                numbers[k] = number;
                tryAll(method, state, numbers, k + 1, from);
            }
            return;
        }
        DrumWords x = inState(state);
        long before = x.digest();
        int told = x.asked();
        String call = "state " + state + ", " + method.getName() + Arrays.toString(numbers);
        try {
            Object[] boxed = Arrays.stream(numbers).boxed().toArray();
            long got = ((Number) method.invoke(x, boxed)).longValue();
            boolean known = method.getReturnType() == long.class || got >= 0 || got == DrumWords.BAD
                || got == DrumWords.FULL || got == DrumWords.FINDING || got == DrumWords.STATE
                || got == DrumWords.NONE || method.getName().equals("asked");
            check.due(call + " is an answer", known ? 1 : 0, 1);
            if (got < 0 && method.getReturnType() == int.class) {
                check.due(call + " changes nothing", x.digest(), before);
                check.due(call + " tells nothing", x.asked(), told);
            }
        } catch (InvocationTargetException e) {
            check.due(call + " threw " + e.getCause(), 1, 0);
        }
    }
}
