import java.io.IOException;
import java.nio.file.Files;
import java.nio.file.Path;
import java.util.ArrayList;
import java.util.BitSet;
import java.util.List;
import java.util.regex.Pattern;

/** The document, by its promises: which of its words were quoted by a test, which were not. */
final class Doc {
    static final int WHAT_IT_IS = -1, TERMS = 0, PROMISES = 43;

    private final List<String> sections = new ArrayList<>();
    private final List<BitSet> quoted = new ArrayList<>();

    Doc(Path file) throws IOException {
        String all = Files.readString(file);
        add(part(all, "## What it is", "## The public face"));
        add(terms(part(all, "## Terms", "## Promise 1:")));
        for (int p = 1; p <= PROMISES; p++) {
            String end = p < PROMISES ? "## Promise " + (p + 1) + ":" : "## Not promised";
            String whole = part(all, "## Promise " + p + ":", end);
            add(whole.substring(whole.indexOf("`: ") + 3));
        }
    }

    private void add(String section) {
        sections.add(section.replaceAll("\\s+", " ").trim());
        quoted.add(new BitSet());
    }

    private static String part(String all, String from, String to) {
        int start = all.indexOf(from);
        int end = all.indexOf(to, start);
        if (start < 0 || end < 0) {
            throw new IllegalStateException("the document has no '" + from + "' ahead of '" + to + "'");
        }
        return all.substring(start + from.length(), end);
    }

    /** Of the lines that only name groups of calls, what stands in brackets is left. */
    private static String terms(String text) {
        String left = text.replaceAll("(?m)^Ahead of the calls [^(\n]*$", "")
            .replaceAll("(?m)^Ahead of the calls [^(\n]*(\\([^\n]*\\))\\.?$", "$1");
        return left.replaceAll("```(text)?", "").replaceAll("======== \\d", "");
    }

    /** Whether a section has these words; they count as quoted then, wherever they stand in it. */
    boolean quote(int section, String words) {
        String text = sections.get(section - WHAT_IT_IS);
        boolean found = false;
        // a word by itself is not the beginning of a longer one
        var m = Pattern.compile("(?<!\\w)" + Pattern.quote(words) + "(?!\\w)").matcher(text);
        while (m.find()) {
            found = true;
            quoted.get(section - WHAT_IT_IS).set(m.start(), m.end());
        }
        return found;
    }

    /** What no test has quoted, if it holds a letter or a figure. */
    String unquoted(int section) {
        String text = sections.get(section - WHAT_IT_IS);
        BitSet marks = quoted.get(section - WHAT_IT_IS);
        StringBuilder left = new StringBuilder();
        for (int i = 0; i < text.length(); i++) {
            left.append(marks.get(i) ? '|' : text.charAt(i));
        }
        String rest = left.toString().replaceAll("\\|+", "|");
        return rest.matches(".*\\w.*") ? rest : "";
    }
}
