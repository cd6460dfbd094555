import java.util.List;
import java.util.function.IntUnaryOperator;

/** What the tests share: counting wrong answers, and typing texts onto the tape. */
final class Checks {
    static final int NONE = -1, UNKNOWN = -100001, OUTSIDE = -100002, NOT = -100003, FULL = -100004;
    static final int UNIT = 1048576;
    /** Numbers that are out of every bound, for calls with wrong inputs. */
    static final int[] WILD = {Integer.MIN_VALUE, Integer.MIN_VALUE + 1, -100004, -2, Integer.MAX_VALUE - 1,
        Integer.MAX_VALUE};

    private static int wrong = 0;
    private static String topic = "";

    private Checks() {
    }

    /** Names the sentence of the document that the answers from here on are held against. */
    static void says(String where, String words) {
        topic = where + " \"" + words + "\": ";
    }

    static void due(String call, long got, long want) {
        if (got != want) {
            wrong++;
            System.out.println(topic + call + " answered " + got + ", due is " + want);
        }
    }

    static boolean isRefusal(int answer) {
        return answer <= UNKNOWN && answer >= FULL;
    }

    /** The least and the greatest number are taken; those just beyond them, and those far beyond, are refused. */
    static void bounds(String call, IntUnaryOperator it, int least, int greatest, int refusal) {
        for (int n : new int[] {least, greatest}) {
            int answer = it.applyAsInt(n);
            due(call + " of " + n + ": " + answer + " is a refusal", isRefusal(answer) ? 1 : 0, 0);
        }
        for (int n : new int[] {least - 1, greatest + 1, Integer.MIN_VALUE, Integer.MAX_VALUE}) {
            due(call + " of " + n, it.applyAsInt(n), refusal);
        }
    }

    /** Two lists of what was asked and answered; only the first answer that differs is told. */
    static void dueSame(String call, List<String> got, List<String> want) {
        for (int n = 0; n < Math.max(got.size(), want.size()); n++) {
            String mine = n < got.size() ? got.get(n) : "nothing";
            String other = n < want.size() ? want.get(n) : "nothing";
            if (!mine.equals(other)) {
                dueText(call, mine, other);
                return;
            }
        }
    }

    static void end() {
        System.out.println(wrong == 0 ? "all answers are as due" : wrong + " answers are not as due");
        if (wrong != 0) {
            System.exit(1);
        }
    }

    /** Puts a text behind the tape, byte by byte as it stands, and answers how many bytes the tape has. */
    static int type(SideBySide x, String text) {
        int length = 0;
        for (int p = 0; p < text.length(); p += 20) {
            int[] n = new int[5];
            for (int i = 0; i < 20; i++) {
                int c = p + i < text.length() ? text.charAt(p + i) & 255 : ' ';
                n[i / 4] = n[i / 4] << 8 | c;
            }
            length = x.feed(n[0], n[1], n[2], n[3], n[4]);
            if (length == FULL) {
                return FULL;
            }
        }
        int over = (20 - text.length() % 20) % 20;
        x.cut(length - over);
        return length - over;
    }

    static int book(SideBySide x, int b, String text) {
        type(x, text);
        return x.take(b);
    }

    static int shortForm(SideBySide x, String text) {
        type(x, text);
        return x.abbreviate();
    }

    static SideBySide books(String left, String right) {
        SideBySide x = new SideBySide();
        book(x, 0, left);
        book(x, 1, right);
        return x;
    }

    /** The pair that is told lies in two paragraphs that no joint may join. */
    static SideBySide withoutWay() {
        SideBySide x = books("a\nb", "u\nv");
        x.keep(true);
        x.fast(0, 1);
        return x;
    }

    /** A text of n unlike words, so many to a sentence. */
    static String unlikeWords(int n, int aSentence) {
        StringBuilder text = new StringBuilder();
        for (int k = 0; k < n; k++) {
            text.append('k').append(k).append(k % aSentence == aSentence - 1 ? "." : " ");
        }
        return text.toString();
    }

    /** All that a book has room for: 1600 bytes, 20 paragraphs of a sentence of 10 words, 40 kinds of 7 letters. */
    static String greatestBook(char mark) {
        StringBuilder text = new StringBuilder();
        for (int w = 0; w < 200; w++) {
            text.append(mark).append(10 + w % 40).append("word").append(w % 10 == 9 ? '\n' : ' ');
        }
        return text.toString();
    }

    /** KINDs of the joints of the best way, as digits; "-" if there is no way. */
    static String kinds(SideBySide x) {
        int n = x.lay();
        if (n == NONE) {
            return "-";
        }
        StringBuilder kinds = new StringBuilder();
        for (int k = 0; k < n; k++) {
            kinds.append(x.joint(k, 0));
        }
        return kinds.toString();
    }

    static void dueText(String call, String got, String want) {
        if (!got.equals(want)) {
            wrong++;
            System.out.println(topic + call + " answered " + got + ", due is " + want);
        }
    }

    static String spelling(SideBySide x, int b, int k) {
        StringBuilder letters = new StringBuilder();
        for (int i = 0; x.letter(b, k, i) >= 0; i++) {
            letters.append((char) x.letter(b, k, i));
        }
        return letters.toString();
    }

    /** All sentences of a book, as "the words of it|..", a new line ahead of each further paragraph. */
    static String shown(SideBySide x, int b) {
        StringBuilder text = new StringBuilder();
        for (int s = 0; s < x.count(b, 0); s++) {
            boolean first = s == 0 || x.sentence(b, s, 2) == x.sentence(b, s - 1, 2);
            text.append(s == 0 ? "" : first ? "|" : "/");
            for (int w = 0; w < x.sentence(b, s, 0); w++) {
                text.append(w == 0 ? "" : " ").append(spelling(x, b, x.word(b, s, w)));
            }
        }
        return text.toString();
    }
}
