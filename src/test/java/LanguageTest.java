import java.io.IOException;
import java.nio.file.Files;
import java.nio.file.Path;
import java.util.List;
import java.util.regex.Matcher;
import java.util.regex.Pattern;

/** Those rules of LANGUAGE.md that can be read off the program's text. */
public final class LanguageTest {
    /** By rule: what no line of the program has. */
    private static final String[][] NOT_THERE = {
        {"no package", "^package\\b"},
        {"1", "\\bprotected\\b"},
        {"2", "::"},
        {"2", "^(?!\\s*(?:case|default)\\b).*->"},
        {"4", "^import (?!java\\.util\\.(?:Arrays|ArrayList|List|Iterator|NoSuchElementException);)"},
        {"4", "\\bSystem\\.(?!arraycopy\\b)"},
        {"4", "\\b(?:Integer|Long|Math)\\.\\w+Exact\\b"},
        {"5", "\\bstatic \\{"},
        {"5", "^\\s*(?:private |public )?static (?!final )\\w+(?:\\[\\])* \\w+(?: =.*)?;"},
        {"6", "\\b(?:finally|synchronized|assert)\\b"},
        {"6", "\\b(?:hashCode|getMessage)\\("},
        {"6", "\\bextends \\w*Exception\\b"},
        {"13", "\\b(?:Thread|Random|nanoTime|currentTimeMillis|Files?|Path)\\b"},
    };
    private static final Pattern METHOD = Pattern.compile("^(?: {4}| {8})\\w[^=;]*\\) ?(?:throws \\w+ )?\\{$");
    private static final Pattern THROWN = Pattern.compile("\\bthrow\\b.*");
    private static final Pattern THROWN_WELL = Pattern.compile("throw new (?:IllegalState|IllegalArgument"
            + "|IndexOutOfBounds|Arithmetic|UnsupportedOperation|NoSuchElement|Runtime)Exception"
            + "\\((?:\"[^\"]*\")?\\);.*");
    private static final int LONG_METHOD = 60;

    private final Checks checks = new Checks("LanguageTest");

    public static void main(String[] args) throws IOException {
        LanguageTest test = new LanguageTest();
        test.read(Files.readAllLines(Path.of("src/main/java/TermServer.java")));
        test.checks.end();
    }

    private void read(List<String> lines) {
        int begun = 0;
        for (int i = 0; i < lines.size(); i++) {
            String line = lines.get(i);
            String at = "line " + (i + 1) + ": ";
            begun = METHOD.matcher(line).matches() ? i : begun;
            if (!isComment(line.trim())) {
                notThere(at, line);
                thrown(at, line);
                boolean ends = line.matches(" {4}(?: {4})?\\}");
                checks.due(at + "rule 11: method is long", ends && i - begun > LONG_METHOD, false);
            }
        }
    }

    private static boolean isComment(String text) {
        return text.startsWith("*") || text.startsWith("/*") || text.startsWith("//");
    }

    private void notThere(String at, String line) {
        for (String[] rule : NOT_THERE) {
            boolean found = Pattern.compile(rule[1]).matcher(line).find();
            checks.due(at + "rule " + rule[0] + ": " + rule[1], found, false);
        }
    }

    private void thrown(String at, String line) {
        Matcher throwing = THROWN.matcher(line);
        if (throwing.find()) {
            boolean well = THROWN_WELL.matcher(throwing.group()).matches();
            checks.due(at + "rule 6: throws one of those listed, with a written text", well, true);
        }
    }
}
