import java.lang.reflect.Field;
import java.lang.reflect.Method;
import java.lang.reflect.Modifier;
import java.nio.file.Files;
import java.nio.file.Path;
import java.util.Arrays;
import java.util.Set;
import java.util.TreeSet;
import java.util.regex.Matcher;
import java.util.regex.Pattern;

/** The public face, and the rules of LANGUAGE.md that can be seen from the source. */
public final class LanguageTest {
    private static final String WORDS_LEFT_OUT = "throw throws try catch finally synchronized assert"
        + " import\\s+static package protected Random System\\.(?!arraycopy) Thread Exception Error"
        + " Object Map Set Iterator stream lambda volatile transient native";

    public static void main(String[] args) throws Exception {
        Check c = new Check("LanguageTest");
        String face = face(Files.readString(Path.of(args[1])));
        Set<String> names = new TreeSet<>();
        methods(c, face, names);
        constants(c, face);
        inside(c, names);
        String source = withoutComments(Files.readString(Path.of(args[0])));
        leftOut(c, source);
        imports(c, source);
        sizes(c, source);
        objects(c, source);
        c.end();
    }

    /** What the document's public face says, its blanks made one each. */
    private static String face(String document) {
        int start = document.indexOf("public final class DrumWords {");
        return document.substring(start, document.indexOf("```", start)).replaceAll("\\s+", " ");
    }

    private static void methods(Check c, String face, Set<String> names) {
        Set<String> due = new TreeSet<>();
        Matcher m = Pattern.compile("public (int|long) (\\w+)\\(([^)]*)\\);").matcher(face);
        while (m.find()) {
            names.add(m.group(2));
            String types = m.group(3).replaceAll("(\\w+) \\w+", "$1").replace(", ", ",");
            due.add(m.group(1) + " " + m.group(2) + "(" + types + ")");
        }
        Set<String> there = new TreeSet<>();
        for (Method method : DrumWords.class.getDeclaredMethods()) {
            int how = method.getModifiers();
            if (Modifier.isPublic(how)) {
                there.add(method.getReturnType() + " " + method.getName() + types(method));
                same(c, method.getName() + " is of an object", Modifier.isStatic(how), false);
            } else {
                same(c, method.getName() + " is private", Modifier.isPrivate(how), true);
                same(c, method.getName() + " has its own name", names.contains(method.getName()), false);
            }
        }
        same(c, "public methods", there, due);
        same(c, "as many as promises", due.size(), Doc.PROMISES - 1);
        same(c, "constructors", DrumWords.class.getDeclaredConstructors().length, 1);
        same(c, "a constructor without parameters", DrumWords.class.getConstructors()[0].getParameterCount(), 0);
        same(c, "final", Modifier.isFinal(DrumWords.class.getModifiers()), true);
    }

    private static String types(Method method) {
        String all = Arrays.toString(method.getParameterTypes()).replace(", ", ",");
        return "(" + all.substring(1, all.length() - 1) + ")";
    }

    private static void constants(Check c, String face) throws IllegalAccessException {
        Set<String> due = new TreeSet<>();
        Matcher m = Pattern.compile("([A-Z]+ = -?\\d+)[,;]").matcher(face);
        while (m.find()) {
            due.add(m.group(1));
        }
        Set<String> there = new TreeSet<>();
        for (Field field : DrumWords.class.getDeclaredFields()) {
            int how = field.getModifiers();
            if (Modifier.isPublic(how)) {
                there.add(field.getName() + " = " + field.getInt(null));
                same(c, field.getName() + " is an int", field.getType(), int.class);
            } else {
                same(c, field.getName() + " is private", Modifier.isPrivate(how), true);
            }
        }
        same(c, "public fields", there, due);
    }

    private static void inside(Check c, Set<String> names) {
        Class<?>[] inside = DrumWords.class.getDeclaredClasses();
        same(c, "at most twelve classes", inside.length + 1 <= 12, true);
        fields(c, DrumWords.class);
        for (Class<?> one : inside) {
            same(c, one.getName() + " is static", Modifier.isStatic(one.getModifiers()), true);
            fields(c, one);
            for (Method method : one.getDeclaredMethods()) {
                same(c, one.getName() + "." + method.getName() + " has its own name",
                    names.contains(method.getName()), false);
            }
        }
    }

    private static void fields(Check c, Class<?> one) {
        int own = 0;
        for (Field field : one.getDeclaredFields()) {
            if (Modifier.isStatic(field.getModifiers())) {
                same(c, field.getName() + " is final", Modifier.isFinal(field.getModifiers()), true);
            } else {
                own++;
            }
        }
        same(c, "at most twenty fields in " + one.getName(), own <= 20, true);
    }

    /** Objects are made with fields and in the constructor alone, so that no call makes any. */
    private static void objects(Check c, String source) {
        Matcher m = Pattern.compile("(?m)^(.*)\\bnew\\b").matcher(source);
        int end = source.indexOf("public int row(");
        while (m.find()) {
            boolean isField = m.group(1).matches(" +private (final )?[\\w\\[\\]]+ \\w+ = ");
            same(c, "no call makes an object: " + m.group(1), isField || m.start() < end, true);
        }
        same(c, "no copies are made", Pattern.compile("\\b(clone|copyOf\\w*)\\(").matcher(source).find(), false);
    }

    private static void leftOut(Check c, String source) {
        for (String word : WORDS_LEFT_OUT.split(" ")) {
            same(c, word, Pattern.compile("\\b" + word).matcher(source).find(), false);
        }
        same(c, "->", source.contains("->"), false);
        same(c, "::", source.contains("::"), false);
        same(c, "Exact", source.contains("Exact"), false);
        for (int i = 0; i < source.length(); i++) {
            if (source.charAt(i) > 126) {
                same(c, "a sign beyond 126 at " + i, source.charAt(i), 0);
            }
        }
    }

    private static void imports(Check c, String source) {
        Matcher m = Pattern.compile("import\\s+([\\w.]+);").matcher(source);
        while (m.find()) {
            boolean known = Set.of("java.util.Arrays", "java.util.ArrayList", "java.util.List")
                .contains(m.group(1));
            same(c, "import " + m.group(1), known, true);
        }
    }

    private static void sizes(Check c, String source) {
        Matcher m = Pattern.compile("(?m)^( {4}| {8})(?:public|private)[^;={]*\\(([^)]*)\\) \\{$").matcher(source);
        int methods = 0;
        while (m.find()) {
            methods++;
            int end = source.indexOf("\n" + m.group(1) + "}", m.end());
            long lines = source.substring(m.start(), end).lines().count();
            same(c, "lines of " + m.group().trim(), lines <= 60, true);
            same(c, "parameters of " + m.group().trim(), m.group(2).split(",").length <= 7, true);
        }
        same(c, "methods were found", methods > 43, true);
    }

    private static String withoutComments(String source) {
        return source.replaceAll("(?s)/\\*.*?\\*/", "").replaceAll("//[^\n]*", "");
    }

    private static void same(Check c, String what, Object got, Object want) {
        c.due(what + " (" + got + ")", got.equals(want) ? 1 : 0, 1);
    }
}
