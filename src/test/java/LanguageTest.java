import java.lang.reflect.Field;
import java.lang.reflect.Method;
import java.lang.reflect.Modifier;
import java.nio.file.Files;
import java.nio.file.Path;
import java.util.Arrays;
import java.util.Set;
import java.util.TreeSet;
import java.util.regex.Matcher;
import java.util.regex.Pattern;

/** The public face, and the rules of LANGUAGE.md that can be seen from the source. */
public final class LanguageTest {
    private static final String FACE = "row2 lay3 at2 tear1 copy5 mean1 text2 put3 fault1 drum1 word2"
        + " mark2 waits2 step0 move2 swap2 value2 undo1 keep1 on1 takes1 idle1 stops0 when2 place2"
        + " best1 least2 clerk2 lies2 kinds2 watch1 duel1 odds3 mid2 lots2 asked0 upper0 lower0"
        + " count1 finding0 findings1 digest0";
    private static final String WORDS_LEFT_OUT = "throw throws try catch finally synchronized assert"
        + " import\\s+static package protected Random System\\.(?!arraycopy) Thread Exception Error"
        + " Object Map Set Iterator stream lambda volatile transient native";

    public static void main(String[] args) throws Exception {
        Check c = new Check("LanguageTest");
        methods(c);
        fields(c);
        String source = withoutComments(Files.readString(Path.of(args[0])));
        leftOut(c, source);
        imports(c, source);
        sizes(c, source);
        c.end();
    }

    private static void methods(Check c) {
        Set<String> due = new TreeSet<>(Arrays.asList(FACE.split(" ")));
        Set<String> names = new TreeSet<>();
        for (String method : due) {
            names.add(method.replaceAll("[0-9]", ""));
        }
        Set<String> there = new TreeSet<>();
        for (Method method : DrumWords.class.getDeclaredMethods()) {
            int how = method.getModifiers();
            if (Modifier.isPublic(how)) {
                there.add(method.getName() + method.getParameterCount());
                boolean isLong = Set.of("upper", "lower", "digest").contains(method.getName());
                same(c, method.getName(), method.getReturnType(), isLong ? long.class : int.class);
            } else {
                same(c, method.getName() + " is private", Modifier.isPrivate(how), true);
                same(c, method.getName() + " has its own name", names.contains(method.getName()), false);
            }
        }
        same(c, "public methods", there, due);
        same(c, "constructors", DrumWords.class.getDeclaredConstructors().length, 1);
        same(c, "final", Modifier.isFinal(DrumWords.class.getModifiers()), true);
        for (Class<?> inside : DrumWords.class.getDeclaredClasses()) {
            same(c, inside.getName() + " is static", Modifier.isStatic(inside.getModifiers()), true);
            for (Method method : inside.getDeclaredMethods()) {
                same(c, inside.getName() + "." + method.getName() + " has its own name",
                    names.contains(method.getName()), false);
            }
        }
    }

    private static void fields(Check c) {
        Set<String> due = new TreeSet<>(Set.of("BAD", "FULL", "FINDING", "STATE", "SPENT", "NONE"));
        Set<String> there = new TreeSet<>();
        int own = 0;
        for (Field field : DrumWords.class.getDeclaredFields()) {
            int how = field.getModifiers();
            if (Modifier.isPublic(how)) {
                there.add(field.getName());
            } else {
                same(c, field.getName() + " is private", Modifier.isPrivate(how), true);
            }
            if (Modifier.isStatic(how)) {
                same(c, field.getName() + " is final", Modifier.isFinal(how), true);
            } else {
                own++;
            }
        }
        same(c, "public fields", there, due);
        same(c, "at most twenty fields", own <= 20, true);
    }

    private static void leftOut(Check c, String source) {
        for (String word : WORDS_LEFT_OUT.split(" ")) {
            same(c, word, Pattern.compile("\\b" + word).matcher(source).find(), false);
        }
        same(c, "->", source.contains("->"), false);
        same(c, "::", source.contains("::"), false);
        same(c, "Exact", source.contains("Exact"), false);
        for (int i = 0; i < source.length(); i++) {
            if (source.charAt(i) > 126) {
                same(c, "a sign beyond 126 at " + i, source.charAt(i), 0);
            }
        }
    }

    private static void imports(Check c, String source) {
        Matcher m = Pattern.compile("import\\s+([\\w.]+);").matcher(source);
        while (m.find()) {
            boolean known = Set.of("java.util.Arrays", "java.util.ArrayList", "java.util.List")
                .contains(m.group(1));
            same(c, "import " + m.group(1), known, true);
        }
    }

    private static void sizes(Check c, String source) {
        Matcher m = Pattern.compile("(?m)^( {4}| {8})(?:public|private)[^;={]*\\(([^)]*)\\) \\{$").matcher(source);
        int methods = 0;
        while (m.find()) {
            methods++;
            int end = source.indexOf("\n" + m.group(1) + "}", m.end());
            long lines = source.substring(m.start(), end).lines().count();
            same(c, "lines of " + m.group().trim(), lines <= 60, true);
            same(c, "parameters of " + m.group().trim(), m.group(2).split(",").length <= 7, true);
        }
        same(c, "methods were found", methods > 43, true);
    }

    private static String withoutComments(String source) {
        return source.replaceAll("(?s)/\\*.*?\\*/", "").replaceAll("//[^\n]*", "");
    }

    private static void same(Check c, String what, Object got, Object want) {
        c.due(what + " (" + got + ")", got.equals(want) ? 1 : 0, 1);
    }
}
