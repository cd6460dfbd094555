import java.lang.reflect.InvocationTargetException;
import java.lang.reflect.Method;
import java.lang.reflect.Modifier;
import java.util.Arrays;
import java.util.Comparator;

/** No call throws, whatever its arguments and whatever the state; what is refused changes nothing. */
public final class WildCallsTest {
    private static final int OBJECTS = 1500;
    private static final int[] NUMBERS = {0, 1, 2, 3, 5, 6, 7, 9, 10, 19, 20, 29, 30, 39, 40, -1, -2, 1600, 10000,
        Integer.MIN_VALUE, Integer.MAX_VALUE, Integer.MAX_VALUE - 1};
    /** How many calls seen() makes; and how many are made of one object: 512 at most with those that make its books. */
    private static final int SEEN = 38;
    private static final int MOST_CALLS = 300;

    private static long state = 1;

    private final SideBySide x;
    /** How far from the bounds the numbers are drawn: 0 as far as can be. */
    private final int tameness;
    private int calls;

    private WildCallsTest(SideBySide x, int tameness) {
        this.x = x;
        this.tameness = tameness;
    }

    public static void main(String[] args) throws IllegalAccessException {
        Method[] face = Arrays.stream(SideBySide.class.getDeclaredMethods()).filter(m -> Modifier.isPublic(m.getModifiers()))
            .sorted(Comparator.comparing(Method::getName)).toArray(Method[]::new);
        Checks.due("calls of the face", face.length, 36);
        for (int n = 0; n < OBJECTS; n++) {
            new WildCallsTest(start(n), n % 3).playAll(face);
        }
        Checks.end();
    }

    private static int draw(int n) {
        state = state * 6364136223846793005L + 1442695040888963407L;
        return (int) ((state >>> 33) % n);
    }

    /** The largest books, books without sentences, and small ones take turns. */
    private static SideBySide start(int n) {
        if (n % 4 == 0) {
            return new SideBySide();
        }
        if (n % 4 == 1) {
            return Checks.books("a b c. d e\nf", "u v. w x y\nz");
        }
        return Checks.books(large(n), large(n + 1));
    }

    private static String large(int n) {
        StringBuilder text = new StringBuilder();
        for (int s = 0; s < 20; s++) {
            for (int w = 0; w < 10; w++) {
                int k = draw(40);
                text.append((char) ('a' + k % 26)).append(k / 26 == 0 ? "" : "x").append(' ');
            }
            text.append(s % (n % 5 + 1) == 0 ? '\n' : '.');
        }
        return text.toString();
    }

    private void playAll(Method[] face) throws IllegalAccessException {
        while (calls < MOST_CALLS) {
            Method call = face[draw(face.length)];
            // A tape that is taken in the midst of a run would leave small books only.
            if (!call.getName().equals("take") || draw(20) == 0) {
                play(call, calls > MOST_CALLS / 2);
            }
        }
    }

    private void play(Method call, boolean compared) throws IllegalAccessException {
        Object[] numbers = drawNumbers(call);
        String shown = call.getName() + Arrays.toString(numbers);
        String before = compared ? seen() : "";
        calls++;
        try {
            int answer = (int) call.invoke(x, numbers);
            if (compared && Checks.isRefusal(answer)) {
                Checks.dueText("state behind the refusal of " + shown, seen(), before);
            }
        } catch (InvocationTargetException e) {
            Checks.dueText(shown, "threw " + e.getCause(), "an answer");
        }
    }

    private Object[] drawNumbers(Method call) {
        Object[] numbers = new Object[call.getParameterCount()];
        for (int i = 0; i < numbers.length; i++) {
            int number = tameness > 0 ? NUMBERS[draw(tameness == 1 ? 15 : 6)] : NUMBERS[draw(NUMBERS.length)];
            boolean isNumber = call.getParameterTypes()[i] == int.class;
            numbers[i] = isNumber ? (Object) number : (Object) (draw(2) == 0);
        }
        return numbers;
    }

    /** What can be asked without changing anything. */
    private String seen() {
        calls += SEEN;
        StringBuilder all = new StringBuilder();
        all.append(x.code()).append(' ').append(x.lay()).append(' ').append(x.second()).append(' ');
        all.append(x.broken()).append(' ').append(x.rest(0, 0)).append(' ');
        for (int s = 0; s < 8; s++) {
            all.append(x.sort(s)).append(' ');
        }
        for (int b = 0; b < 2; b++) {
            for (int what = 0; what < 5; what++) {
                all.append(x.count(b, what)).append(' ');
            }
        }
        for (int k = 0; k < 5; k++) {
            all.append(x.partner(k, 0)).append(' ').append(x.partner(k, 2)).append(' ').append(x.phrases(k)).append(' ');
        }
        return all.toString();
    }
}
