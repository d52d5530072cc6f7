import java.io.File;
import java.io.IOException;
import java.lang.reflect.InvocationTargetException;
import java.lang.reflect.Method;
import java.lang.reflect.Modifier;
import java.nio.file.Files;
import java.nio.file.Path;
import java.util.HashMap;
import java.util.List;
import java.util.Map;
import java.util.Set;
import java.util.TreeSet;
import java.util.regex.Matcher;
import java.util.regex.Pattern;

/** README.md's example answers what it says there, and each call and each test is told of. */
public final class ReadmeTest {
    private static final String README = "README.md";
    private static final Pattern CALL = Pattern.compile("(?:int (\\w+) = )?server\\.(\\w+)\\((.*)\\); +// (\\w+).*");

    private final Checks checks = new Checks("ReadmeTest");
    private final TermServer server = new TermServer();
    private final Map<String, Integer> variables = new HashMap<>();
    private final Map<String, Method> face = new HashMap<>();

    public static void main(String[] args) throws IOException, IllegalAccessException {
        ReadmeTest test = new ReadmeTest();
        List<String> lines = Files.readAllLines(Path.of(README));
        test.readFace();
        test.runExample(lines);
        test.findCalls(lines);
        test.findTests(String.join("\n", lines));
        test.checks.end();
    }

    private void readFace() {
        for (Method method : TermServer.class.getDeclaredMethods()) {
            if (Modifier.isPublic(method.getModifiers())) {
                face.put(method.getName(), method);
            }
        }
    }

    private void runExample(List<String> lines) throws IllegalAccessException {
        int end = lines.lastIndexOf("```");
        Set<String> unused = new TreeSet<>(face.keySet());
        for (String line : lines.subList(lines.indexOf("```java") + 2, end)) {
            if (!line.isEmpty()) {
                Matcher call = CALL.matcher(line);
                checks.due("a call with its answer: " + line, call.matches(), true);
                if (call.matches()) {
                    runCall(line, call);
                    unused.remove(call.group(2));
                }
            }
        }
        checks.due("without an example: " + unused, unused.size(), 0);
    }

    private void runCall(String line, Matcher call) throws IllegalAccessException {
        Method method = face.get(call.group(2));
        checks.due("of the face: " + line, method != null, true);
        if (method == null) {
            return;
        }
        String got = answer(method, values(call.group(3)));
        checks.due(line + ".. " + got, got.equals(call.group(4)), true);
        if (call.group(1) != null) {
            variables.put(call.group(1), Integer.valueOf(got));
        }
    }

    private Object[] values(String written) {
        String[] texts = written.isEmpty() ? new String[0] : written.split(", ");
        Object[] values = new Object[texts.length];
        for (int i = 0; i < texts.length; i++) {
            Integer known = variables.get(texts[i]);
            values[i] = known != null ? known : Integer.valueOf(texts[i]);
        }
        return values;
    }

    private String answer(Method method, Object[] values) throws IllegalAccessException {
        try {
            String text = String.valueOf(method.invoke(server, values));
            return text.equals(String.valueOf(TermServer.NONE)) ? "NONE" : text;
        } catch (InvocationTargetException e) {
            return e.getCause().getClass().getSimpleName();
        }
    }

    private void findCalls(List<String> lines) {
        for (String name : face.keySet()) {
            boolean told = lines.stream().anyMatch(line -> line.startsWith("| `" + name + "("));
            checks.due("a row for " + name, told, true);
        }
    }

    private void findTests(String text) {
        for (String file : new File("src/test/java").list()) {
            String name = file.replace(".java", "");
            checks.due("told of: " + name, name.equals("Checks") || text.contains("`" + name + "`"), true);
        }
    }
}
