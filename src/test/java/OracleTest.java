/** All promises: runs of calls, drawn by a fixed rule, are answered by the class and by the plain Oracle. */
public final class OracleTest {
    private static final int OBJECTS = 700;
    private static final int CALLS = 90;
    private static final String[] WORDS = {"a", "Bb", "ccc", "dogs", "katze", "3.5", "7", "Mr", "abcdefghijklm", "x", "no",
        "st"};
    private static final String[] PARTS = {" ", " ", " ", " ", ", ", ". ", ".", "! ", "?", "\n", ".\n", " . ", "\n\n"};

    private long state;
    private SideBySide x;
    private Oracle o;
    private int run;
    private int calls;

    private OracleTest(long seed) {
        state = seed;
    }

    public static void main(String[] args) {
        OracleTest t = new OracleTest(args.length > 0 ? Long.parseLong(args[0]) : 20261116L);
        for (int n = 0; n < OBJECTS; n++) {
            t.playObject(n);
        }
        Checks.end();
    }

    private int draw(int n) {
        state = state * 6364136223846793005L + 1442695040888963407L;
        return (int) ((state >>> 33) % n);
    }

    private int from(int low, int high) {
        return low + draw(Math.max(1, high - low + 1));
    }

    /** Mostly a number from low to high, sometimes one just outside, rarely a wild one. */
    private int arg(int low, int high) {
        int luck = draw(40);
        if (luck == 0) {
            return Checks.WILD[draw(Checks.WILD.length)];
        }
        return luck < 3 ? from(low - 2, high + 2) : from(low, high);
    }

    /** What is answered behind 512 calls is free. */
    private void due(String call, int got, int want) {
        calls++;
        if (calls <= 512) {
            Checks.due("run " + run + ": " + call, got, want);
        }
    }

    private String text(int sentences, int words) {
        StringBuilder text = new StringBuilder();
        int narrow = from(2, WORDS.length);
        for (int s = 0; s < sentences; s++) {
            for (int w = from(1, words); w > 0; w--) {
                text.append(WORDS[draw(narrow)]).append(draw(9) == 0 ? "-" : " ");
            }
            text.append(draw(4) == 0 ? "\n" : PARTS[draw(PARTS.length)]).append(draw(2) == 0 ? ". " : " ");
        }
        if (draw(6) == 0 && text.length() > 0) {
            text.setCharAt(draw(text.length()), (char) draw(256));
        }
        return text.toString();
    }

    private void type(String text) {
        int length = 0;
        String padded = text + " ".repeat((20 - text.length() % 20) % 20);
        for (int p = 0; p < padded.length(); p += 20) {
            String part = padded.substring(p, p + 20);
            int[] n = new int[5];
            for (int i = 0; i < 20; i++) {
                n[i / 4] = n[i / 4] << 8 | part.charAt(i);
            }
            length = o.feed(part);
            due("feed", x.feed(n[0], n[1], n[2], n[3], n[4]), length);
        }
        int keep = Math.max(0, length - (padded.length() - text.length()));
        due("cut(" + keep + ")", x.cut(keep), o.cut(keep));
    }

    /** The oracle writes out all ways: books of more than 5 sentences would take it too long. */
    private void takeBook(int b) {
        type(text(from(0, 4), from(1, 5)));
        int want = o.take(b);
        due("take(" + b + ")", x.take(b), want);
        if (want == Checks.FULL) {
            due("cut(0)", x.cut(0), o.cut(0));
        } else if (want > 5) {
            type("a b.\nb c. a");
            due("take(" + b + ")", x.take(b), o.take(b));
        }
    }

    private void playObject(int n) {
        run = n;
        calls = 0;
        x = new SideBySide();
        o = new Oracle();
        if (draw(2) == 0) {
            type(WORDS[draw(WORDS.length)]);
            due("abbreviate()", x.abbreviate(), o.abbreviate());
        }
        takeBook(0);
        takeBook(1);
        for (int c = 0; c < CALLS; c++) {
            playCall(draw(40));
        }
        compareAll();
    }

    private void playCall(int which) {
        int lefts = o.count(0, 0);
        int rights = o.count(1, 0);
        int leftKinds = o.count(0, 2);
        int rightKinds = o.count(1, 2);
        if (which < 10) {
            playBooks(which, lefts, rights);
        } else if (which < 20) {
            playLaying(which, lefts, rights);
        } else if (which < 26) {
            playShares(which, leftKinds, rightKinds);
        } else if (which < 30) {
            playLinks(which, Math.max(1, o.lay()));
        } else {
            playDesk(which, lefts, rights);
        }
    }

    private void playBooks(int which, int lefts, int rights) {
        int b = arg(0, 1);
        int s = arg(0, b == 0 ? lefts - 1 : rights - 1);
        int w = arg(0, 3);
        int k = arg(0, 6);
        int what = arg(0, 4);
        if (which == 0 && draw(6) == 0) {
            takeBook(draw(2));
        } else if (which == 1 && draw(3) == 0) {
            type(WORDS[draw(WORDS.length)]);
            due("abbreviate()", x.abbreviate(), o.abbreviate());
            int n = arg(0, 40);
            due("cut(" + n + ")", x.cut(n), o.cut(n));
            due("cut(0)", x.cut(0), o.cut(0));
        } else if (which == 2 || which == 3) {
            due("change(" + b + ", " + s + ", " + w + ", " + k + ")", x.change(b, s, w, k), o.change(b, s, w, k));
        } else if (which == 4) {
            due("count(" + b + ", " + what + ")", x.count(b, what), o.count(b, what));
        } else if (which == 5) {
            due("sentence(" + b + ", " + s + ", " + what + ")", x.sentence(b, s, what), o.sentence(b, s, what));
        } else if (which == 6) {
            due("word(" + b + ", " + s + ", " + w + ")", x.word(b, s, w), o.word(b, s, w));
        } else if (which == 7) {
            due("letter(" + b + ", " + k + ", " + w + ")", x.letter(b, k, w), o.letter(b, k, w));
        }
    }

    private void playLaying(int which, int lefts, int rights) {
        int i = arg(0, lefts);
        int j = arg(0, rights);
        int k = arg(0, Math.max(0, o.lay() - 1));
        int what = arg(0, 3);
        int kind = arg(0, 6);
        int d = draw(5) == 0 ? arg(0, 10000) : draw(5) == 0 ? 10000 : arg(0, 500);
        boolean on = draw(2) == 0;
        if (which == 10 || which == 11) {
            due("fast(" + i + ", " + j + ")", x.fast(i, j), o.fast(i, j));
        } else if (which == 12) {
            due("loosen(" + i + ")", x.loosen(i), o.loosen(i));
        } else if (which == 13) {
            due("keep(" + on + ")", x.keep(on), o.keep(on));
        } else if (which == 14) {
            due("lay()", x.lay(), o.lay());
        } else if (which == 15) {
            due("joint(" + k + ", " + what + ")", x.joint(k, what), o.joint(k, what));
        } else if (which == 16) {
            due("price(" + kind + ", " + i + ", " + j + ")", x.price(kind, i, j), o.price(kind, i, j));
        } else if (which == 17) {
            due("rest(" + i + ", " + j + ")", x.rest(i, j), o.rest(i, j));
        } else if (which == 18) {
            due("second()", x.second(), o.second());
        } else {
            due("sure(" + k + ", " + d + ")", x.sure(k, d), o.sure(k, d));
        }
    }

    private void playShares(int which, int leftKinds, int rightKinds) {
        int n = draw(3) == 0 ? arg(0, 10) : arg(0, 3);
        int a = arg(0, leftKinds - 1);
        int b = arg(0, rightKinds - 1);
        int what = arg(0, 2);
        if (which == 20) {
            due("rounds(" + n + ")", x.rounds(n), o.rounds(n));
        } else if (which == 21) {
            due("share(" + a + ", " + b + ")", x.share(a, b), o.share(a, b));
            due("share(" + a + ", -1)", x.share(a, -1), o.share(a, -1));
        } else if (which == 22) {
            due("partner(" + a + ", " + what + ")", x.partner(a, what), o.partner(a, what));
        } else if (which == 23 || which == 24) {
            due("term(" + a + ", " + b + ")", x.term(a, b), o.term(a, b));
        } else {
            due("broken()", x.broken(), o.broken());
        }
    }

    private void playLinks(int which, int joints) {
        int k = arg(0, joints - 1);
        int way = arg(0, 1);
        int v = arg(0, 4);
        int y = arg(0, 4);
        if (which == 26) {
            due("link(" + k + ", " + way + ", " + v + ")", x.link(k, way, v), o.link(k, way, v));
        } else if (which == 29) {
            due("phrases(" + k + ")", x.phrases(k), o.phrases(k));
        } else {
            due("linked(" + k + ", " + way + ", " + v + ", " + y + ")", x.linked(k, way, v, y), o.linked(k, way, v, y));
        }
    }

    private void playDesk(int which, int lefts, int rights) {
        int s = draw(3) == 0 ? arg(0, 7) : arg(0, 1);
        int r = draw(3) == 0 ? arg(0, 7) : arg(0, 1);
        int b = arg(0, 1);
        int i = arg(0, b == 0 ? lefts - 1 : rights - 1);
        int n = draw(4) == 0 ? arg(-2, 31) : arg(0, 6);
        int p = arg(0, 5);
        if (which == 30) {
            due("putSentence(" + s + ", " + b + ", " + i + ")", x.putSentence(s, b, i), o.putSentence(s, b, i));
        } else if (which == 31) {
            int k = arg(0, Math.max(0, o.lay() - 1));
            due("putJoint(" + s + ", " + k + ")", x.putJoint(s, k), o.putJoint(s, k));
        } else if (which == 32 || which == 33) {
            due("putRow(" + s + ", " + n + ")", x.putRow(s, n), o.putRow(s, n));
        } else if (which == 34) {
            due("clear(" + s + ")", x.clear(s), o.clear(s));
        } else if (which == 35) {
            due("write(" + s + ", " + p + ", " + n + ")", x.write(s, p, n), o.write(s, p, n));
        } else if (which == 36) {
            due("read(" + s + ", " + p + ")", x.read(s, p), o.read(s, p));
        } else if (which == 37) {
            due("spell(" + s + ", " + r + ", " + p + ")", x.spell(s, r, p), o.spell(s, r, p));
        } else if (which == 38) {
            due("rate(" + s + ")", x.rate(s), o.rate(s));
        }
        due("sort(" + s + ")", x.sort(s), o.sort(s));
        due("code()", x.code(), o.code());
    }

    /** What stands at the end of a run shows whether some call changed more or less than it had to. */
    private void compareAll() {
        int joints = o.lay();
        due("lay() at the end", x.lay(), joints);
        due("second() at the end", x.second(), o.second());
        for (int k = 0; k < joints; k++) {
            for (int what = 0; what < 4; what++) {
                due("joint(" + k + ", " + what + ") at the end", x.joint(k, what), o.joint(k, what));
            }
            due("phrases(" + k + ") at the end", x.phrases(k), o.phrases(k));
        }
        for (int a = 0; a < o.count(0, 2); a++) {
            for (int b = -1; b < o.count(1, 2); b++) {
                due("share(" + a + ", " + b + ") at the end", x.share(a, b), o.share(a, b));
            }
            due("partner(" + a + ", 1) at the end", x.partner(a, 1), o.partner(a, 1));
        }
        for (int s = 0; s < 8; s++) {
            due("sort(" + s + ") at the end", x.sort(s), o.sort(s));
            due("rate(" + s + ") at the end", x.rate(s), o.rate(s));
            due("code() at the end", x.code(), o.code());
            for (int p = 0; o.sort(s) == 3 && p <= 30; p++) {
                due("read(" + s + ", " + p + ") at the end", x.read(s, p), o.read(s, p));
            }
        }
    }
}
