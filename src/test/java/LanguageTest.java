import java.io.IOException;
import java.nio.file.Files;
import java.nio.file.Path;
import java.util.List;
import java.util.regex.Matcher;
import java.util.regex.Pattern;

/** Those rules of LANGUAGE.md that can be read off the program's text. */
public final class LanguageTest {
    private static final String[] NOT_THERE = {
        "->", "::", "\\bpackage\\b", "\\bsynchronized\\b", "\\bassert\\b", "\\bfinally\\b", "\\btry\\b",
        "\\bprotected\\b", "\\bSystem\\.(?!arraycopy)", "\\bThread\\b", "\\bRandom\\b", "\\bhashCode\\b",
        "\\btoString\\b", "\\bString\\b", "\\bdouble\\b", "\\bfloat\\b", "\\bstatic \\{", "Exact\\b",
    };
    private static final Pattern METHOD = Pattern.compile("^(?: {4}| {8})\\w[^=;]*\\) ?(?:throws \\w+ )?\\{$");

    public static void main(String[] args) throws IOException {
        Checks checks = new Checks("LanguageTest");
        List<String> lines = Files.readAllLines(Path.of("src/main/java/TermServer.java"));
        String methodName = "";
        int begun = 0;
        for (int i = 0; i < lines.size(); i++) {
            String line = lines.get(i);
            String at = "line " + (i + 1) + ": ";
            if (METHOD.matcher(line).matches()) {
                begun = i;
                methodName = line.trim();
            }
            if (line.trim().startsWith("*") || line.trim().startsWith("/*") || line.trim().startsWith("//")) {
                continue;
            }
            for (String pattern : NOT_THERE) {
                checks.due(at + pattern, Pattern.compile(pattern).matcher(line).find(), false);
            }
            checks.due(at + "import", line.startsWith("import") && !line.equals("import java.util.Arrays;"), false);
            checks.due(at + "method is long", i - begun > 60 && line.matches(" {4}(?: {4})?\\}"), false);
            checks.due(at + "static field not final", line.matches("\\s*(private )?static \\w+ \\w+( =.*)?;"), false);
            made(checks, at, methodName, line);
            thrown(checks, at, line);
        }
        checks.end();
    }

    /** Objects are made in constructors alone, so calls take no room. */
    private static void made(Checks checks, String at, String methodName, String line) {
        boolean makes = line.contains("new ") && !line.contains("throw new ");
        boolean constructor = methodName.matches("(public )?[A-Z]\\w*\\(.*");
        checks.due(at + "made outside a constructor", makes && !constructor, false);
    }

    private static void thrown(Checks checks, String at, String line) {
        Matcher throwing = Pattern.compile("\\bthrow\\b.*").matcher(line);
        if (throwing.find()) {
            boolean due = throwing.group().matches("throw new IndexOutOfBoundsException\\(\"[^\"]*\"\\);");
            checks.due(at + "throws what the document says", due, true);
        }
    }
}
