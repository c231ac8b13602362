import java.io.IOException;
import java.nio.file.Files;
import java.nio.file.Path;
import java.util.ArrayDeque;
import java.util.Deque;
import java.util.HashSet;
import java.util.Set;
import java.util.regex.Matcher;
import java.util.regex.Pattern;

/** The rules of ../shared/LANGUAGE.md that can be seen in the text of the class. */
public final class LanguageTest {
    private static final Path CLASS = Path.of("src/main/java/GlebeVowels.java");
    private static final Pattern METHOD = Pattern.compile(
        "^\\s+(public |private )?(static )?(final )?(int|long|boolean|void|long\\[\\]|int\\[\\]|[A-Z]\\w*) (\\w+)\\(([^)]*)\\) \\{\\s*$");
    private static final Pattern STATIC_FIELD = Pattern.compile("^\\s+(private |public )?static (?!final)[^(]*;\\s*$");

    private LanguageTest() {
    }

    public static void main(String[] args) throws IOException {
        String raw = Files.readString(CLASS);
        String bare = bare(raw);
        forbidden(bare);
        methods(bare.split("\n"));
        for (int i = 0; i < raw.length(); i++) {
            if (raw.charAt(i) > 127) {
                Due.due("a sign above 127 at " + i, raw.charAt(i), 0);
            }
        }
        Due.end();
    }

    /** The text without comments, and with empty texts and signs. */
    private static String bare(String raw) {
        Matcher m = Pattern.compile("/\\*[\\s\\S]*?\\*/|//[^\n]*|\"(\\\\.|[^\"\\\\])*\"|'(\\\\.|[^'\\\\])'").matcher(raw);
        return m.replaceAll(r -> {
            String found = r.group();
            if (found.startsWith("\"")) {
                return "\"\"";
            }
            return found.startsWith("'") ? "'x'" : found.replaceAll("[^\n]", "");
        });
    }

    private static void forbidden(String bare) {
        String[] patterns = {"\\b(throw|throws|try|catch|finally|synchronized|assert|import|package|native|volatile)\\b",
            "->", "::", "\\b(equals|hashCode|toString)\\b", "\\w+Exact\\b", "\"\"\\s*\\+", "\\+\\s*\"\"", "static \\{",
            "\\b(System)\\.(?!arraycopy)", "\\bnew\\s+\\w+\\s*\\([^)]*\\)\\s*\\{", "\\b(Random|Thread|Object|Iterator)\\b",
            "\\b(Integer|Long|Math)\\.(?![a-z]\\w*\\()", "while \\(true\\)", "for \\(;;\\)", "numberOf\\w+"};
        for (String pattern : patterns) {
            Matcher m = Pattern.compile(pattern).matcher(bare);
            Due.due("what is forbidden, " + pattern + (m.find() ? ": " + m.group() : ""), m.reset().find() ? 1 : 0, 0);
        }
        for (String line : bare.split("\n")) {
            Due.due("a static field that is not final: " + line, STATIC_FIELD.matcher(line).matches() ? 1 : 0, 0);
        }
        Matcher classes = Pattern.compile("\\bclass (\\w+)").matcher(bare);
        int n = 0;
        while (classes.find()) {
            n++;
        }
        Due.due("more than twelve classes", Math.max(12, n), 12);
        Matcher inner = Pattern.compile("(?m)^    .*\\bclass \\w+").matcher(bare);
        while (inner.find()) {
            Due.due("an inner class that is not static: " + inner.group(), inner.group().contains(" static ") ? 1 : 0, 1);
        }
    }

    private static void methods(String[] lines) {
        Set<String> open = new HashSet<>();
        Deque<String> other = new ArrayDeque<>();
        for (int i = 0; i < lines.length; i++) {
            Matcher m = METHOD.matcher(lines[i]);
            if (!m.matches()) {
                continue;
            }
            String name = m.group(5);
            if ("public ".equals(m.group(1))) {
                open.add(name);
            } else {
                other.add(name);
            }
            int end = i;
            String close = lines[i].replaceAll("\\S.*", "") + "}";
            while (!lines[end].equals(close)) {
                end++;
            }
            Due.due("lines of " + name + ", at most 60", Math.max(60, end - i + 1), 60);
            int given = m.group(6).isBlank() ? 0 : m.group(6).split(",").length;
            Due.due("what " + name + " takes, at most 7", Math.max(7, given), 7);
        }
        Due.due("methods of the document's face", open.size(), 31);
        for (String name : other) {
            Due.due(name + " bears the name of a public one", open.contains(name) ? 1 : 0, 0);
        }
    }
}
