import java.io.IOException;
import java.lang.reflect.Method;
import java.lang.reflect.Modifier;
import java.nio.charset.StandardCharsets;
import java.nio.file.Files;
import java.nio.file.Path;
import java.util.ArrayList;
import java.util.HashMap;
import java.util.List;
import java.util.Map;
import java.util.Set;
import java.util.TreeSet;
import java.util.regex.Matcher;
import java.util.regex.Pattern;
import java.util.stream.Stream;

/** What README.md says: its example's answers, the calls with their refusals, the tests and classes that it names. */
public final class ReadmeTest {
    private static final Pattern EXAMPLE_CALL = Pattern.compile("x\\.(\\w+)\\(([^)]*)\\);\\s+// (-?\\d+): .+");
    private static final Pattern ROW = Pattern.compile("(?m)^\\| `(\\w+)\\(([^)]*)\\)` \\| (.+?) \\|([^|]*)\\|$");
    private static final Pattern PROMISE = Pattern.compile("(?s)## Promise \\d+: (\\w+)\n(.*?)(?=\n## )");
    private static final Pattern REFUSAL = Pattern.compile("\\b(UNKNOWN|OUTSIDE|NOT|FULL)\\b");
    private static final Pattern CODE = Pattern.compile("\\b(\\d)\\b");

    private static String readme;
    private static final Map<String, Method> FACE = new HashMap<>();

    public static void main(String[] args) throws IOException, ReflectiveOperationException {
        readme = Files.readString(Path.of("README.md"), StandardCharsets.UTF_8);
        for (Method m : SideBySide.class.getDeclaredMethods()) {
            if (Modifier.isPublic(m.getModifiers())) {
                FACE.put(m.getName(), m);
            }
        }
        example();
        callsAndRefusals();
        testsThatItNames();
        classesThatItNames();
        Checks.end();
    }

    private static void example() throws ReflectiveOperationException {
        int from = readme.indexOf("```java\n") + 8;
        String[] lines = readme.substring(from, readme.indexOf("```", from)).split("\n");
        Checks.dueText("the example's first line", lines[0], "SideBySide x = new SideBySide();");
        SideBySide x = new SideBySide();
        for (int n = 1; n < lines.length; n++) {
            Matcher m = EXAMPLE_CALL.matcher(lines[n]);
            if (!m.matches()) {
                Checks.dueText("a line of the example", lines[n], "x.call(..); // its answer: ..");
                continue;
            }
            int answer = (int) FACE.get(m.group(1)).invoke(x, numbers(m.group(2)));
            Checks.due("README.md: " + lines[n], answer, Integer.parseInt(m.group(3)));
        }
    }

    private static Object[] numbers(String text) {
        return Stream.of(text.split(", ")).filter(n -> !n.isEmpty()).map(n -> (Object) (int) (long) Long.decode(n)).toArray();
    }

    /** For each promise of a call, in the document's order, the row of that call names the same refusals and codes. */
    private static void callsAndRefusals() throws IOException {
        String document = Files.readString(Path.of("../shared/DOC.md"), StandardCharsets.UTF_8);
        List<String> want = new ArrayList<>();
        Matcher promise = PROMISE.matcher(document);
        while (promise.find()) {
            String name = promise.group(1);
            String text = promise.group(2);
            if (FACE.containsKey(name)) {
                String codes = text.contains("CODE") ? text.substring(text.indexOf("CODE")) : "";
                want.add(shown(name, FACE.get(name).getParameterCount(), text, codes));
            }
        }
        Checks.due("promises of calls", want.size(), 36);
        List<String> got = new ArrayList<>();
        Matcher row = ROW.matcher(readme);
        while (row.find()) {
            int parameters = row.group(2).isEmpty() ? 0 : row.group(2).split(", ").length;
            got.add(shown(row.group(1), parameters, row.group(4), row.group(4)));
        }
        Checks.dueSame("README.md: calls, parameters, refusals, codes", got, want);
    }

    private static String shown(String call, int parameters, String refusals, String codes) {
        return call + " of " + parameters + " " + wordsOf(REFUSAL, refusals) + " " + wordsOf(CODE, codes);
    }

    private static Set<String> wordsOf(Pattern pattern, String text) {
        Set<String> words = new TreeSet<>();
        Matcher m = pattern.matcher(text);
        while (m.find()) {
            words.add(m.group(1));
        }
        return words;
    }

    private static void testsThatItNames() throws IOException {
        Set<String> there = new TreeSet<>();
        try (Stream<Path> files = Files.list(Path.of("src/test/java"))) {
            files.map(f -> f.getFileName().toString()).filter(f -> f.endsWith("Test.java"))
                .forEach(f -> there.add(f.substring(0, f.length() - 5)));
        }
        Checks.dueText("README.md: tests", wordsOf(Pattern.compile("`(\\w+Test)`"), readme).toString(), there.toString());
    }

    private static void classesThatItNames() {
        int from = readme.indexOf("| class inside |");
        String table = readme.substring(from, readme.indexOf("\n\n", from));
        Set<String> inside = new TreeSet<>();
        for (Class<?> c : SideBySide.class.getDeclaredClasses()) {
            inside.add(c.getSimpleName());
        }
        Checks.dueText("README.md: classes", wordsOf(Pattern.compile("`(\\w+)`"), table).toString(), inside.toString());
    }
}
