import java.io.IOException;
import java.lang.reflect.Field;
import java.lang.reflect.Method;
import java.lang.reflect.Modifier;
import java.nio.charset.StandardCharsets;
import java.nio.file.Files;
import java.nio.file.Path;
import java.util.ArrayList;
import java.util.Arrays;
import java.util.List;
import java.util.Set;
import java.util.TreeSet;
import java.util.regex.Matcher;
import java.util.regex.Pattern;

/** The face of the class is the document's; the words that LANGUAGE.md rules out do not stand in it. */
public final class FaceTest {
    private static final String[] FACE = {"feed 5", "cut 1", "abbreviate 0", "take 1", "count 2", "sentence 3", "word 3",
        "letter 3", "change 4", "fast 2", "loosen 1", "keep 1", "lay 0", "joint 2", "price 3", "rest 2", "second 0", "sure 2",
        "rounds 1", "share 2", "partner 2", "term 2", "broken 0", "link 3", "linked 4", "phrases 1", "putSentence 3",
        "putJoint 2", "putRow 2", "clear 1", "sort 1", "write 3", "read 2", "spell 3", "rate 1", "code 0"};
    private static final Pattern RULED_OUT = Pattern.compile("\\b(throw|throws|try|catch|synchronized|assert|static\\s*\\{"
        + "|NaN|Random|System\\.(?!arraycopy)|Thread|HashMap|HashSet|Object|hashCode|toString|\\w+Exact)\\b|->|::|import (?!java\\.util\\.Arrays;)");

    public static void main(String[] args) throws IOException {
        constants();
        methods();
        innerClasses();
        ruledOutWords();
        Checks.end();
    }

    private static void constants() {
        Checks.due("NONE", SideBySide.NONE, -1);
        Checks.due("UNKNOWN", SideBySide.UNKNOWN, -100001);
        Checks.due("OUTSIDE", SideBySide.OUTSIDE, -100002);
        Checks.due("NOT", SideBySide.NOT, -100003);
        Checks.due("FULL", SideBySide.FULL, -100004);
        Set<String> visible = new TreeSet<>();
        for (Field f : SideBySide.class.getDeclaredFields()) {
            if (!Modifier.isPrivate(f.getModifiers())) {
                visible.add(f.getName());
            }
        }
        Checks.dueText("constants", visible.toString(), "[FULL, NONE, NOT, OUTSIDE, UNKNOWN]");
        Checks.due("constructors", SideBySide.class.getDeclaredConstructors().length, 1);
        Checks.due("final", Modifier.isFinal(SideBySide.class.getModifiers()) ? 1 : 0, 1);
    }

    private static void methods() {
        List<String> visible = new ArrayList<>();
        Set<String> hidden = new TreeSet<>();
        for (Method m : SideBySide.class.getDeclaredMethods()) {
            if (Modifier.isPrivate(m.getModifiers())) {
                hidden.add(m.getName());
                continue;
            }
            visible.add(m.getName() + " " + m.getParameterCount());
            Checks.due("public: " + m.getName(), Modifier.isPublic(m.getModifiers()) ? 1 : 0, 1);
            Checks.dueText("type of " + m.getName(), m.getReturnType().getName(), "int");
        }
        List<String> want = new ArrayList<>(Arrays.asList(FACE));
        want.sort(null);
        visible.sort(null);
        Checks.dueText("methods", visible.toString(), want.toString());
        for (String call : FACE) {
            String name = call.substring(0, call.indexOf(' '));
            Checks.due("no private method is called " + name, hidden.contains(name) ? 1 : 0, 0);
        }
    }

    private static void innerClasses() {
        Class<?>[] inner = SideBySide.class.getDeclaredClasses();
        Checks.due("at most twelve classes", inner.length < 12 ? 1 : 0, 1);
        for (Class<?> c : inner) {
            Checks.due("static: " + c.getName(), Modifier.isStatic(c.getModifiers()) ? 1 : 0, 1);
            Checks.due("not public: " + c.getName(), Modifier.isPublic(c.getModifiers()) ? 1 : 0, 0);
            long own = Arrays.stream(c.getDeclaredFields()).filter(f -> !Modifier.isStatic(f.getModifiers())).count();
            Checks.due("at most twenty fields: " + c.getName(), own <= 20 ? 1 : 0, 1);
            for (Method m : c.getDeclaredMethods()) {
                Checks.due("at most seven parameters: " + m.getName(), m.getParameterCount() <= 7 ? 1 : 0, 1);
                boolean alike = Arrays.stream(FACE).anyMatch(call -> call.startsWith(m.getName() + " "));
                Checks.due("bears the name of a public method: " + m.getName(), alike ? 1 : 0, 0);
            }
            for (Field f : c.getDeclaredFields()) {
                int how = f.getModifiers();
                Checks.due("static is final: " + f.getName(), Modifier.isStatic(how) && !Modifier.isFinal(how) ? 1 : 0, 0);
            }
        }
    }

    private static void ruledOutWords() throws IOException {
        String source = Files.readString(Path.of("src/main/java/SideBySide.java"), StandardCharsets.ISO_8859_1);
        String bare = source.replaceAll("(?s)/\\*.*?\\*/", " ").replaceAll("//[^\n]*", " ");
        Matcher m = RULED_OUT.matcher(bare);
        while (m.find()) {
            Checks.dueText("a word that is ruled out", m.group(), "none");
        }
    }
}
