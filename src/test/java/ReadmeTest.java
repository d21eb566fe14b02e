import java.io.IOException;
import java.io.StringWriter;
import java.lang.reflect.Field;
import java.lang.reflect.Method;
import java.lang.reflect.Modifier;
import java.net.URL;
import java.net.URLClassLoader;
import java.nio.file.Files;
import java.nio.file.Path;
import java.util.ArrayList;
import java.util.Comparator;
import java.util.List;
import java.util.Set;
import java.util.TreeSet;
import java.util.regex.Matcher;
import java.util.regex.Pattern;
import java.util.stream.Stream;
import javax.tools.JavaCompiler;
import javax.tools.ToolProvider;

/**
 * What README.md shows is true of the program: its Java is compiled and run as one program, and each
 * call in it bears the answer that it gives.
 */
public final class ReadmeTest {
    private static final Check CHECK = new Check("ReadmeTest");
    private static final Set<String> TOLD_BY_ASKED =
        Set.of("lay", "at", "mean", "word", "takes", "when", "place", "best", "watch");
    private static final Set<String> TOLD_BY_UPPER = Set.of("idle", "odds", "mid");
    private static final Pattern STATEMENT = Pattern.compile("((?:x\\.)?(\\w+)\\(.*\\));(.*)");
    private static final Pattern ANSWER = Pattern.compile(" +// (-?\\d+|[A-Z]+)((?:\\W.*)?)");

    private final List<String> page;
    private final List<String> made = new ArrayList<>();
    private final List<String> calls = new ArrayList<>();
    private final StringBuilder prose = new StringBuilder();

    private ReadmeTest(List<String> page) {
        this.page = page;
    }

    public static void main(String[] args) throws Exception {
        Path readme = Path.of(args[2]);
        ReadmeTest test = new ReadmeTest(Files.readAllLines(readme));
        test.turnIntoJava();
        test.run();
        test.whereAnswersAreTold();
        test.noCallsInProse();
        test.namesTheFace();
        test.tellsTheConstants();
        test.namesTheTests(readme.toAbsolutePath().getParent().resolve("src/test/java"));
        CHECK.end();
    }

    /** What the page's own Java calls, once for each call that it shows. */
    public static void due(int line, String call, long got, long want) {
        CHECK.due("README.md, line " + line + ": " + call, got, want);
    }

    private static void sure(String what, boolean holds) {
        CHECK.due(what, holds ? 1 : 0, 1);
    }

    /** Line by line, so that what the compiler says of a line is said of the page's line. */
    private void turnIntoJava() {
        boolean inside = false;
        boolean member = false;
        boolean running = false;
        for (int k = 0; k < page.size(); k++) {
            String line = page.get(k);
            String java = "";
            if (line.equals("```java")) {
                inside = true;
                member = k + 1 < page.size() && page.get(k + 1).startsWith("static ");
                sure("line " + (k + 1) + ": methods stand ahead of what runs", !member || !running);
                java = member || running ? "" : "public static void run() {";
                running |= !member;
            } else if (line.startsWith("```")) {
                inside = false;
            } else if (inside) {
                java = member ? line : withAnswer(k + 1, line);
            } else {
                prose.append(line).append('\n');
            }
            made.add(java);
        }
        sure("there is Java in it", running && !inside);
        made.set(0, "public final class Shown {" + made.get(0));
        made.add("} }");
    }

    private String withAnswer(int number, String line) {
        Matcher statement = STATEMENT.matcher(line);
        if (!statement.matches()) {
            sure("line " + number + " only makes an object: " + line,
                line.isEmpty() || line.matches("DrumWords \\w+ = new DrumWords\\(\\);"));
            return line;
        }
        calls.add(statement.group(2));
        Matcher answer = ANSWER.matcher(statement.group(3));
        if (!answer.matches()) {
            sure("line " + number + " bears its answer: " + line, false);
            return line;
        }
        sure("line " + number + " tells of no call by the way: " + line,
            !answer.group(2).matches(".*\\w\\(.*"));
        String call = statement.group(1);
        return "ReadmeTest.due(" + number + ", \"" + call.replace("\"", "\\\"") + "\", " + call + ", "
            + inJava(answer.group(1)) + ");";
    }

    private static String inJava(String answer) {
        return answer.matches("[A-Z]+") ? "DrumWords." + answer : answer + "L";
    }

    private void run() throws Exception {
        Path room = Files.createTempDirectory("readme");
        try {
            Path source = room.resolve("Shown.java");
            Files.write(source, made);
            JavaCompiler compiler = ToolProvider.getSystemJavaCompiler();
            StringWriter said = new StringWriter();
            boolean compiled = compiler.getTask(said, null, null,
                List.of("-cp", System.getProperty("java.class.path"), "-d", room.toString()), null,
                compiler.getStandardFileManager(null, null, null).getJavaFileObjects(source)).call();
            sure("the page's Java compiles (Shown.java has the page's lines)\n" + said, compiled);
            if (compiled) {
                try (URLClassLoader loader = new URLClassLoader(new URL[] {room.toUri().toURL()})) {
                    loader.loadClass("Shown").getMethod("run").invoke(null);
                }
            }
        } finally {
            remove(room);
        }
    }

    private static void remove(Path room) throws IOException {
        try (Stream<Path> all = Files.walk(room)) {
            for (Path path : all.sorted(Comparator.reverseOrder()).toList()) {
                Files.delete(path);
            }
        }
    }

    /** Each call that tells by asked(), by upper() and lower() is shown with it, and no other one. */
    private void whereAnswersAreTold() {
        Set<String> byAsked = new TreeSet<>();
        Set<String> byUpper = new TreeSet<>();
        for (int k = 1; k < calls.size(); k++) {
            if (calls.get(k).equals("asked")) {
                byAsked.add(calls.get(k - 1));
            } else if (calls.get(k).equals("upper")) {
                byUpper.add(calls.get(k - 1));
                sure("lower() behind upper()", k + 1 < calls.size() && calls.get(k + 1).equals("lower"));
            }
        }
        sure("asked() behind " + byAsked, byAsked.equals(TOLD_BY_ASKED));
        sure("upper() behind " + byUpper, byUpper.equals(TOLD_BY_UPPER));
    }

    private void noCallsInProse() {
        Matcher m = Pattern.compile("\\w+\\(\\s*-?\\d[^)]*\\)").matcher(prose);
        while (m.find()) {
            sure("a call outside the page's Java is not looked at: " + m.group(), false);
        }
    }

    private void namesTheFace() {
        for (Method method : DrumWords.class.getDeclaredMethods()) {
            if (Modifier.isPublic(method.getModifiers())) {
                String name = method.getName();
                sure("the page tells of " + name, prose.indexOf("`" + name + "`") >= 0);
                sure("the page shows what " + name + " answers", calls.contains(name));
            }
        }
    }

    private void tellsTheConstants() throws IllegalAccessException {
        for (Field field : DrumWords.class.getDeclaredFields()) {
            if (Modifier.isPublic(field.getModifiers())) {
                String name = "`" + field.getName() + "`";
                Matcher m = Pattern.compile(name + "(?: \\|)? \\(?(-\\d+)").matcher(prose);
                sure("the page tells what " + name + " is", m.find());
                CHECK.due("README.md: " + name, Long.parseLong(m.group(1)), field.getInt(null));
            }
        }
    }

    private void namesTheTests(Path tests) throws IOException {
        Set<String> there = new TreeSet<>();
        try (Stream<Path> files = Files.list(tests)) {
            files.map(file -> file.getFileName().toString().replace(".java", ""))
                .filter(name -> name.matches(".*(Test|.Sentences)")).forEach(there::add);
        }
        Set<String> named = new TreeSet<>();
        Matcher m = Pattern.compile("`(\\w+(?:Test|Sentences))`").matcher(prose);
        while (m.find()) {
            named.add(m.group(1));
        }
        sure("the tests that there are " + there + ", those that the page names " + named,
            there.equals(named));
    }
}
