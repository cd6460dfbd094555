import java.io.IOException;
import java.lang.reflect.Constructor;
import java.lang.reflect.Field;
import java.lang.reflect.Method;
import java.lang.reflect.Modifier;
import java.nio.charset.StandardCharsets;
import java.nio.file.Files;
import java.nio.file.Path;
import java.util.ArrayList;
import java.util.Arrays;
import java.util.List;
import java.util.Set;
import java.util.TreeSet;
import java.util.regex.Matcher;
import java.util.regex.Pattern;

/** The face of the class is the one that the document shows; what LANGUAGE.md rules out does not stand in the class. */
public final class FaceTest {
    private static final Pattern CONSTANT = Pattern.compile("([A-Z]+) = (-?\\d+)");
    private static final Pattern CALL = Pattern.compile("public (int \\w+\\([^)]*\\))");
    private static final Pattern HEADING =
        Pattern.compile("Ahead of the calls ([^\n]*) the interface says: (---- [a-z ]+)\\.");
    private static final Pattern RULED_OUT = Pattern.compile("\\b(throw|throws|try|catch|synchronized|assert|static\\s*\\{"
        + "|NaN|Random|System\\.(?!arraycopy)|Thread|HashMap|HashSet|Object|hashCode|toString|\\w+Exact)\\b|->|::"
        + "|import (?!java\\.util\\.Arrays;)|(?m)^package |\\bArrays\\.(?!fill\\b|copyOf\\b|copyOfRange\\b|;)"
        + "|\\bMath\\.(?!abs\\b|max\\b|min\\b)");
    private static final int MOST_LINES_OF_A_METHOD = 60;

    private static String document;
    private static String source;

    public static void main(String[] args) throws IOException {
        document = Files.readString(Path.of("../shared/DOC.md"), StandardCharsets.ISO_8859_1);
        source = Files.readString(Path.of("src/main/java/SideBySide.java"), StandardCharsets.ISO_8859_1);
        constants();
        constructor();
        methods();
        headings();
        Checks.says("LANGUAGE.md", "A landing outside these rules is sent back with the rule's number.");
        privateNames();
        innerClasses();
        fields(SideBySide.class);
        ruledOutWords();
        lengthOfMethods();
        Checks.end();
    }

    /** The document's face as it stands there, between the lines of its first piece of code. */
    private static String shownFace() {
        int from = document.indexOf("```java");
        return document.substring(from, document.indexOf("```", from + 3));
    }

    private static void constants() {
        List<String> want = new ArrayList<>();
        Matcher m = CONSTANT.matcher(shownFace());
        while (m.find()) {
            want.add(m.group(1) + " = " + m.group(2));
        }
        List<String> got = new ArrayList<>();
        for (Field f : SideBySide.class.getDeclaredFields()) {
            if (!Modifier.isPrivate(f.getModifiers())) {
                int how = Modifier.PUBLIC | Modifier.STATIC | Modifier.FINAL;
                Checks.due("public static final: " + f.getName(), f.getModifiers() & how, how);
                got.add(f.getName() + " = " + valueOf(f));
            }
        }
        Checks.due("constants", want.size(), 5);
        Checks.dueSame("constants", got, want);
    }

    private static String valueOf(Field constant) {
        try {
            return String.valueOf(constant.getInt(null));
        } catch (IllegalAccessException e) {
            return e.toString();
        }
    }

    private static void constructor() {
        Constructor<?>[] all = SideBySide.class.getDeclaredConstructors();
        Checks.due("constructors", all.length, 1);
        Checks.due("its parameters", all[0].getParameterCount(), 0);
        Checks.due("it is public", all[0].getModifiers(), Modifier.PUBLIC);
        Checks.due("the class is public and final", SideBySide.class.getModifiers(), Modifier.PUBLIC | Modifier.FINAL);
    }

    /** The calls that a text shows, as "int take(int)": names of parameters are free. */
    private static List<String> callsShownIn(String text) {
        List<String> calls = new ArrayList<>();
        Matcher m = CALL.matcher(text);
        while (m.find()) {
            calls.add(m.group(1).replaceAll("(int|boolean) \\w+(?=[,)])", "$1"));
        }
        return calls;
    }

    private static String shown(Method m) {
        List<String> types = new ArrayList<>();
        for (Class<?> type : m.getParameterTypes()) {
            types.add(type.getName());
        }
        return m.getReturnType().getName() + " " + m.getName() + "(" + String.join(", ", types) + ")";
    }

    private static void methods() {
        List<String> want = callsShownIn(shownFace());
        Checks.due("calls of the document", want.size(), 36);
        Checks.dueSame("calls, in the document's order", callsShownIn(source), want);
        List<String> got = new ArrayList<>();
        for (Method m : SideBySide.class.getDeclaredMethods()) {
            if (!Modifier.isPrivate(m.getModifiers())) {
                Checks.due("public, not static: " + m.getName(), m.getModifiers(), Modifier.PUBLIC);
                got.add(shown(m));
            }
        }
        want.sort(null);
        got.sort(null);
        Checks.dueSame("calls that can be made", got, want);
    }

    private static void headings() {
        Matcher m = HEADING.matcher(document);
        int found = 0;
        while (m.find()) {
            found++;
            Checks.says("Terms", "the interface says: " + m.group(2));
            String[] names = m.group(1).replace("`", "").split(", ");
            int from = source.indexOf("// " + m.group(2) + "\n");
            Checks.due("the heading is there", from >= 0 ? 1 : 0, 1);
            int to = source.indexOf("// ----", from + 3);
            List<String> got = new ArrayList<>();
            for (String call : callsShownIn(source.substring(Math.max(from, 0), to))) {
                got.add(call.replaceAll("int (\\w+).*", "$1"));
            }
            Checks.dueSame("calls behind it", got, Arrays.asList(names));
        }
        Checks.due("headings", found, 5);
    }

    /** LANGUAGE.md, 1. */
    private static void privateNames() {
        Set<String> face = new TreeSet<>();
        for (String call : callsShownIn(shownFace())) {
            face.add(call.replaceAll("int (\\w+).*", "$1"));
        }
        List<Class<?>> all = new ArrayList<>(Arrays.asList(SideBySide.class.getDeclaredClasses()));
        all.add(SideBySide.class);
        for (Class<?> c : all) {
            for (Method m : c.getDeclaredMethods()) {
                boolean own = c != SideBySide.class || Modifier.isPrivate(m.getModifiers());
                Checks.due("bears the name of a public one: " + m, own && face.contains(m.getName()) ? 1 : 0, 0);
                Checks.due("at most seven parameters: " + m, m.getParameterCount() <= 7 ? 1 : 0, 1);
            }
        }
    }

    private static void innerClasses() {
        Class<?>[] inner = SideBySide.class.getDeclaredClasses();
        Checks.due("at most twelve classes", inner.length < 12 ? 1 : 0, 1);
        for (Class<?> c : inner) {
            Checks.due("static: " + c.getName(), Modifier.isStatic(c.getModifiers()) ? 1 : 0, 1);
            Checks.due("not public: " + c.getName(), c.getModifiers() & (Modifier.PUBLIC | Modifier.PROTECTED), 0);
            Checks.due("has no class of its own: " + c.getName(), c.getDeclaredClasses().length, 0);
            fields(c);
        }
    }

    private static void fields(Class<?> c) {
        int own = 0;
        for (Field f : c.getDeclaredFields()) {
            int how = f.getModifiers();
            own += Modifier.isStatic(how) ? 0 : 1;
            Checks.due("static is final: " + f, Modifier.isStatic(how) && !Modifier.isFinal(how) ? 1 : 0, 0);
        }
        Checks.due("at most twenty fields: " + c.getName(), own <= 20 ? 1 : 0, 1);
    }

    private static String withoutComments() {
        return source.replaceAll("(?s)/\\*.*?\\*/", " ").replaceAll("//[^\n]*", " ");
    }

    private static void ruledOutWords() {
        Matcher m = RULED_OUT.matcher(withoutComments());
        while (m.find()) {
            Checks.dueText("a word that is ruled out", m.group(), "none");
        }
    }

    /** A method of the class, or of one inside it, ends at the brace that stands as far in as its first line does. */
    private static void lengthOfMethods() {
        Matcher m = Pattern.compile("(?m)^((?:    ){1,2})[a-z][^;=\n]*\\) \\{\n(?s:.*?)\n\\1\\}").matcher(source);
        int found = 0;
        while (m.find()) {
            found++;
            long lines = m.group().lines().count();
            String first = m.group().lines().findFirst().orElse("").trim();
            Checks.due("lines of " + first + " " + lines, lines <= MOST_LINES_OF_A_METHOD ? 1 : 0, 1);
        }
        Checks.due("methods were found", found > 100 ? 1 : 0, 1);
    }
}
