import java.util.Arrays;

/** Promises 11 to 19. */
public final class LayingTest {
    private static final int[] LEFTS = {1, 1, 0, 2, 1, 2, 2};
    private static final int[] RIGHTS = {1, 0, 1, 1, 2, 2, 2};

    public static void main(String[] args) {
        fast();
        fastPairsBind();
        loosen();
        keep();
        lay();
        joint();
        priceOfLengths();
        priceOfPartners();
        priceRefusals();
        rest();
        second();
        sure();
        wholeSize();
        Checks.end();
    }

    private static void fast() {
        SideBySide x = Checks.books("a.b.c.d.e", "u.v.w.x");
        Checks.due("fast(5, 0)", x.fast(5, 0), Checks.UNKNOWN);
        Checks.due("fast(0, 4)", x.fast(0, 4), Checks.UNKNOWN);
        Checks.due("fast(-1, 0)", x.fast(-1, 0), Checks.UNKNOWN);
        Checks.due("fast(0, -1)", x.fast(0, -1), Checks.UNKNOWN);
        for (int n : Checks.WILD) {
            Checks.due("fast(" + n + ", 0)", x.fast(n, 0), Checks.UNKNOWN);
            Checks.due("fast(0, " + n + ")", x.fast(0, n), Checks.UNKNOWN);
        }
        Checks.due("fast(2, 2)", x.fast(2, 2), 1);
        Checks.due("fast again", x.fast(2, 2), Checks.NOT);
        Checks.due("fast: the left one", x.fast(2, 3), Checks.NOT);
        Checks.due("fast: the right one", x.fast(3, 2), Checks.NOT);
        Checks.due("across by 1 and -2", x.fast(3, 0), Checks.NOT);
        Checks.due("across by -2 and 1", x.fast(0, 3), Checks.NOT);
        Checks.due("across by 2 and -1", x.fast(4, 1), Checks.NOT);
        Checks.due("across by 1 and -1", x.fast(3, 1), 2);
        Checks.due("across by -1 and 1 from both", x.fast(1, 3), Checks.NOT);
        Checks.due("not across", x.fast(0, 0), 3);
        Checks.due("not across, behind", x.fast(4, 3), 4);
        SideBySide y = Checks.books("a.b.c", "u.v.w");
        Checks.due("fast(1, 1)", y.fast(1, 1), 1);
        Checks.due("across by -1 and 1", y.fast(0, 2), 2);
        SideBySide full = Checks.books("a.".repeat(20), "b.".repeat(20));
        for (int i = 0; i < 20; i++) {
            Checks.due("20 pairs", full.fast(i, i), i + 1);
        }
        Checks.due("all are fast", full.fast(0, 1), Checks.NOT);
        Checks.dueText("20 pairs", Checks.kinds(full), "0".repeat(20));
    }

    private static void fastPairsBind() {
        SideBySide x = Checks.books("a.b.c", "u.v.w");
        x.fast(0, 1);
        Checks.dueText("a joint has both of a pair", Checks.kinds(x), "50");
        Checks.due("its price", x.joint(0, 3), 440);
        x.fast(1, 0);
        Checks.due("crossed in second()", x.second(), 480);
        x.loosen(0);
        x.loosen(1);
        x.fast(0, 0);
        x.fast(1, 1);
        Checks.due("pairs side by side go with two and two", x.second(), 440);
        SideBySide far = Checks.books("a.b.c", "u.v.w");
        far.fast(0, 2);
        Checks.dueText("far pair: u alone, a b with v w, c alone", Checks.kinds(far), "251");
        SideBySide none = Checks.withoutWay();
        Checks.dueText("no way", Checks.kinds(none), "-");
        Checks.due("no way: lay()", none.lay(), Checks.NONE);
        Checks.due("no way: rest", none.rest(0, 0), Checks.NOT);
        Checks.due("no way: second", none.second(), Checks.NOT);
        Checks.due("no way: joint", none.joint(0, 0), Checks.UNKNOWN);
        Checks.due("no way: sure", none.sure(0, 0), Checks.UNKNOWN);
        Checks.due("no way: rounds", none.rounds(3), 0);
        Checks.due("no way: broken", none.broken(), 0);
        Checks.due("no way: link", none.link(0, 0, 0), Checks.UNKNOWN);
        Checks.due("no way: putJoint", none.putJoint(0, 0), Checks.UNKNOWN);
        Checks.due("no way: the rest behind", none.rest(2, 2), 0);
        Checks.due("no way: price goes on", none.price(0, 0, 0), 0);
    }

    private static void loosen() {
        SideBySide x = Checks.books("a.b", "u.v");
        x.fast(0, 1);
        Checks.due("loosen(1): not fast", x.loosen(1), 0);
        Checks.due("loosen(0)", x.loosen(0), 1);
        Checks.due("loosen(0) again", x.loosen(0), 0);
        Checks.due("loosen: the right one is free", x.fast(1, 1), 1);
        Checks.due("loosen: the left one is free", x.fast(0, 0), 2);
        Checks.due("loosen(2)", x.loosen(2), Checks.UNKNOWN);
        Checks.due("loosen(-1)", x.loosen(-1), Checks.UNKNOWN);
        for (int n : Checks.WILD) {
            Checks.due("loosen(" + n + ")", x.loosen(n), Checks.UNKNOWN);
        }
    }

    private static void keep() {
        SideBySide x = Checks.books("a.b.\nc", "u.\nv.w");
        Checks.dueText("not kept", Checks.kinds(x), "000");
        Checks.due("keep(true)", x.keep(true), 0);
        Checks.due("keep(true) again", x.keep(true), 1);
        Checks.dueText("kept", Checks.kinds(x), "34");
        Checks.due("kept: rest, one and one, one and two", x.rest(1, 0), 230 + 36);
        Checks.due("kept: rest from beyond one end", x.rest(2, 0), 450 + 230 + 36);
        Checks.due("kept: rest that cannot be", x.rest(3, 0), Checks.NOT);
        Checks.due("keep(false)", x.keep(false), 1);
        Checks.dueText("kept no more", Checks.kinds(x), "000");
        SideBySide y = Checks.books("a.b\nc", "u");
        y.keep(true);
        Checks.dueText("the first paragraphs alone are common", Checks.kinds(y), "31");
        SideBySide z = Checks.books("a.b", "");
        z.keep(true);
        Checks.dueText("no common paragraph", Checks.kinds(z), "11");
    }

    private static void lay() {
        Checks.due("lay: nothing", Checks.books("", "").lay(), 0);
        Checks.dueText("lay: left alone", Checks.kinds(Checks.books("a.b.c", "")), "111");
        Checks.dueText("lay: right alone", Checks.kinds(Checks.books("", "u.v")), "22");
        Checks.dueText("lay: two and one", Checks.kinds(Checks.books("a.b.c", "uu.v")), "30");
        Checks.dueText("lay: one and two", Checks.kinds(Checks.books("aa.b", "u.v.w")), "40");
        Checks.dueText("lay: of several the lesser first kind", Checks.kinds(Checks.books("a.b.c", "u.v")), "03");
        Checks.dueText("lay: alone first", Checks.kinds(Checks.books("a.b.c", "u")), "13");
    }

    private static void joint() {
        SideBySide x = Checks.books("a.b.c", "u");
        int[][] want = {{1, 0, 0, 450}, {3, 1, 0, 230 + 16}};
        for (int k = 0; k < 2; k++) {
            for (int what = 0; what < 4; what++) {
                Checks.due("joint(" + k + ", " + what + ")", x.joint(k, what), want[k][what]);
            }
        }
        Checks.due("joint(2, 0)", x.joint(2, 0), Checks.UNKNOWN);
        Checks.due("joint(-1, 9)", x.joint(-1, 9), Checks.UNKNOWN);
        Checks.due("joint(0, 4)", x.joint(0, 4), Checks.OUTSIDE);
        Checks.due("joint(0, -1)", x.joint(0, -1), Checks.OUTSIDE);
        for (int n : Checks.WILD) {
            Checks.due("joint(" + n + ", 0)", x.joint(n, 0), Checks.UNKNOWN);
            Checks.due("joint(0, " + n + ")", x.joint(0, n), Checks.OUTSIDE);
        }
        SideBySide y = Checks.books("a", "u");
        y.fast(0, 0);
        Checks.book(y, 0, "");
        Checks.due("joint: the next left one, though there is none", y.joint(0, 1), 0);
        SideBySide z = Checks.books("a.b", "");
        Checks.due("joint: second one alone", z.joint(1, 1), 1);
        Checks.due("joint: the next right one, though there is none", z.joint(1, 2), 0);
    }

    private static void priceOfLengths() {
        // Lengths: left 1, 5, 4 of 10; right 2, 3, 5 of 10.
        SideBySide x = Checks.books("a.bb ccc.dddd", "uu.vvv.wwwww");
        Checks.due("0: 1 and 2: 10 20 / 30", x.price(0, 0, 0), 6 * 6);
        Checks.due("0: 5 and 5", x.price(0, 1, 2), 0);
        Checks.due("0: 1 and 5: 40 20 / 60", x.price(0, 0, 2), 13 * 13);
        Checks.due("1", x.price(1, 2, 0), 450);
        Checks.due("2", x.price(2, 0, 2), 450);
        Checks.due("3: 6 and 2", x.price(3, 0, 0), 230 + 100);
        Checks.due("4: 1 and 5", x.price(4, 0, 0), 230 + 13 * 13);
        Checks.due("5: 9 and 8", x.price(5, 1, 1), 440 + 1);
        Checks.due("6: 1 and 3, 5 and 2", x.price(6, 0, 0), 480 + 100 + 8 * 8);
        // Lengths of the whole books count: left 4 of 4, right 1 of 2.
        SideBySide y = Checks.books("abcd", "u.v");
        Checks.due("0: 4 of 4 and 1 of 2", y.price(0, 0, 0), 6 * 6);
        Checks.due("4: all", y.price(4, 0, 0), 230);
        SideBySide z = Checks.books("a.bbbb", "u.v");
        z.change(0, 0, 0, 1);
        Checks.due("change() tells on prices", z.price(0, 0, 0), 0);
    }

    private static void priceOfPartners() {
        SideBySide x = Checks.books("a b c d. e f g h", "p q r s. t u v w");
        for (int a = 0; a < 8; a++) {
            x.term(a, a);
        }
        Checks.due("four partners", x.price(0, 0, 0), -60);
        Checks.due("no partners", x.price(0, 0, 1), 0);
        Checks.due("six partners at most", x.price(5, 0, 0), 440 - 90);
        Checks.due("crossed: none", x.price(6, 0, 0), 480);
        Checks.due("3: of both left ones", x.price(3, 0, 1), 230 + 36 - 60);
        Checks.due("4: in both right ones", x.price(4, 0, 0), 230 + 36 - 60);
        Checks.due("1: none", x.price(1, 0, 0), 450);
        Checks.due("rest", x.rest(0, 0), -120);
        SideBySide y = Checks.books("a a a a. b b b b", "p p p p. q q q q");
        y.term(0, 1);
        y.term(1, 0);
        Checks.due("crossed: each word counts, six at most", y.price(6, 0, 0), 480 - 90);
        Checks.due("each left word by itself", y.price(0, 0, 1), -60);
        y.change(0, 0, 0, 1);
        Checks.due("as the words are now", y.price(0, 0, 1), -45);
        y.change(1, 1, 0, 0);
        Checks.due("one right word is enough", y.price(0, 0, 1), -60);
        y.term(0, 0);
        Checks.due("a term that is gone leaves its shares", y.price(0, 0, 1), -60);
    }

    private static void priceRefusals() {
        SideBySide x = Checks.books("a.b", "u.v.w");
        Checks.due("price(-1, 0, 0)", x.price(-1, 0, 0), Checks.OUTSIDE);
        Checks.due("price(7, 9, 9)", x.price(7, 9, 9), Checks.OUTSIDE);
        for (int kind = 0; kind < 7; kind++) {
            int i = 2 - LEFTS[kind];
            int j = 3 - RIGHTS[kind];
            Checks.due("price of " + kind + " at the end is known", x.price(kind, i, j) == Checks.UNKNOWN ? 1 : 0, 0);
            int[] beyondLeft = {i + 1, -1, 2, 3, Integer.MAX_VALUE, Integer.MAX_VALUE - 1, Integer.MIN_VALUE};
            for (int wrong : beyondLeft) {
                int want = LEFTS[kind] == 0 ? 450 : Checks.UNKNOWN;
                Checks.due("price(" + kind + ", " + wrong + ", 0)", x.price(kind, wrong, 0), want);
            }
            int[] beyondRight = {j + 1, -1, 3, 4, Integer.MAX_VALUE, Integer.MAX_VALUE - 1, Integer.MIN_VALUE};
            for (int wrong : beyondRight) {
                int want = RIGHTS[kind] == 0 ? 450 : Checks.UNKNOWN;
                Checks.due("price(" + kind + ", 0, " + wrong + ")", x.price(kind, 0, wrong), want);
            }
        }
        for (int n : Checks.WILD) {
            Checks.due("price(" + n + ", 0, 0)", x.price(n, 0, 0), Checks.OUTSIDE);
        }
    }

    private static void rest() {
        SideBySide x = Checks.books("a.b", "u.v");
        Checks.due("rest(0, 0)", x.rest(0, 0), 0);
        Checks.due("rest(1, 1)", x.rest(1, 1), 0);
        Checks.due("rest(2, 2)", x.rest(2, 2), 0);
        Checks.due("rest(2, 0)", x.rest(2, 0), 900);
        Checks.due("rest(1, 2)", x.rest(1, 2), 450);
        Checks.due("rest(0, 1): two and one", x.rest(0, 1), 230 + 36);
        Checks.due("rest(3, 0)", x.rest(3, 0), Checks.UNKNOWN);
        Checks.due("rest(0, 3)", x.rest(0, 3), Checks.UNKNOWN);
        Checks.due("rest(-1, 0)", x.rest(-1, 0), Checks.UNKNOWN);
        Checks.due("rest(0, -1)", x.rest(0, -1), Checks.UNKNOWN);
        for (int n : Checks.WILD) {
            Checks.due("rest(" + n + ", 0)", x.rest(n, 0), Checks.UNKNOWN);
            Checks.due("rest(0, " + n + ")", x.rest(0, n), Checks.UNKNOWN);
        }
        x.fast(1, 0);
        Checks.due("rest: a pair whose other one is gone", x.rest(1, 1), Checks.NOT);
        Checks.due("rest: a pair that is gone", x.rest(2, 1), 450);
    }

    private static void second() {
        Checks.due("second: nothing", Checks.books("", "").second(), Checks.NOT);
        Checks.due("second: one way", Checks.books("a", "").second(), Checks.NOT);
        Checks.due("second: both alone", Checks.books("a", "u").second(), 900);
        Checks.due("second: as dear as the best", Checks.books("a.b.c", "u").second(), 450 + 230 + 16);
        SideBySide x = Checks.books("a", "u");
        x.fast(0, 0);
        Checks.due("second: none beside a pair", x.second(), Checks.NOT);
        SideBySide y = Checks.books("a.b", "u.v");
        Checks.due("second: two and two", y.second(), 440);
        y.fast(0, 1);
        Checks.due("second: crossed", y.second(), 480);
    }

    private static void sure() {
        SideBySide x = Checks.books("a.b", "u.v");
        Checks.due("sure(0, 439)", x.sure(0, 439), 1);
        Checks.due("sure(0, 440)", x.sure(0, 440), 0);
        Checks.due("sure(1, 439)", x.sure(1, 439), 1);
        Checks.due("sure(1, 440)", x.sure(1, 440), 0);
        Checks.due("sure(2, 0)", x.sure(2, 0), Checks.UNKNOWN);
        Checks.due("sure(-1, -1)", x.sure(-1, -1), Checks.UNKNOWN);
        Checks.due("sure(0, -1)", x.sure(0, -1), Checks.OUTSIDE);
        Checks.due("sure(0, 10001)", x.sure(0, 10001), Checks.OUTSIDE);
        Checks.due("sure(0, 10000)", x.sure(0, 10000), 0);
        for (int n : Checks.WILD) {
            Checks.due("sure(" + n + ", 0)", x.sure(n, 0), Checks.UNKNOWN);
            Checks.due("sure(0, " + n + ")", x.sure(0, n), Checks.OUTSIDE);
        }
        x.fast(0, 0);
        x.fast(1, 1);
        Checks.due("sure: another kind at these sentences is another joint", x.sure(0, 440), 0);
        SideBySide one = Checks.books("a.b", "");
        Checks.due("sure: in the only way", one.sure(1, 10000), 1);
        SideBySide even = Checks.books("a.b.c", "u");
        Checks.due("sure: another way is as dear", even.sure(0, 0), 0);
        SideBySide later = Checks.books("a.b.c", "u.v.w");
        Checks.due("sure: a way that differs elsewhere does not matter", later.sure(2, 439), 1);
        later.fast(2, 2);
        later.fast(1, 1);
        Checks.due("second, for sure()", later.second(), 440);
        Checks.due("sure: two and two at the end is as dear", later.sure(2, 440), 0);
        SideBySide paragraphs = Checks.books("a.b.\nc", "u.v.\nw");
        paragraphs.keep(true);
        paragraphs.fast(2, 2);
        Checks.due("sure: in every way", paragraphs.sure(2, 10000), 1);
        Checks.due("sure: not in every way", paragraphs.sure(1, 10000), 0);
    }

    /** The two least sums of the largest books, added up from the front by the prices that price() tells. */
    private static void wholeSize() {
        SideBySide x = wholeBooks(0);
        Checks.due("whole size: left", x.count(0, 0), 20);
        Checks.due("whole size: right", x.count(1, 0), 20);
        compareSums(0, "even shares");
        compareSums(10, "behind ten rounds");
    }

    private static SideBySide wholeBooks(int rounds) {
        SideBySide x = Checks.books(text(20, 7), text(20, 3));
        x.rounds(rounds);
        return x;
    }

    /** An object answers 512 calls: a new one tells the prices of each kind from each left sentence on. */
    private static int[] pricesFrom(int kind, int i, int rounds) {
        SideBySide x = wholeBooks(rounds);
        int[] prices = new int[21];
        for (int j = 0; j + RIGHTS[kind] <= 20; j++) {
            prices[j] = x.price(kind, i, j);
        }
        return prices;
    }

    private static String text(int sentences, int step) {
        StringBuilder text = new StringBuilder();
        int n = step;
        for (int s = 0; s < sentences; s++) {
            for (int w = 0; w <= (s * step) % 10; w++) {
                n = (n * step + s + w) % 40;
                text.append((char) ('a' + n % 26)).append(n / 26 == 0 ? "" : "xyz").append(' ');
            }
            text.append('.');
        }
        return text.toString();
    }

    private static void compareSums(int rounds, String when) {
        long[][] least = new long[21][21];
        long[][] next = new long[21][21];
        for (int i = 0; i <= 20; i++) {
            Arrays.fill(least[i], 1L << 40);
            Arrays.fill(next[i], 1L << 40);
        }
        least[0][0] = 0;
        for (int i = 0; i <= 20; i++) {
            // A sentence of the right alone leads on in the same row: that has to be whole ahead of the other kinds.
            for (int kind : new int[] {2, 0, 1, 3, 4, 5, 6}) {
                if (i + LEFTS[kind] <= 20) {
                    leadOn(kind, i, pricesFrom(kind, i, rounds), least, next);
                }
            }
        }
        SideBySide x = wholeBooks(rounds);
        Checks.due("whole size, " + when + ": rest(0, 0)", x.rest(0, 0), least[20][20]);
        Checks.due("whole size, " + when + ": second()", x.second(), next[20][20]);
        int sum = 0;
        int joints = x.lay();
        for (int k = 0; k < joints; k++) {
            sum += x.joint(k, 3);
        }
        Checks.due("whole size, " + when + ": sum of the best", sum, least[20][20]);
    }

    /** What a joint of that kind from left sentence i on makes of the two least sums behind it. */
    private static void leadOn(int kind, int i, int[] prices, long[][] least, long[][] next) {
        int u = i + LEFTS[kind];
        for (int j = 0; j + RIGHTS[kind] <= 20; j++) {
            int v = j + RIGHTS[kind];
            for (long sum : new long[] {least[i][j] + prices[j], next[i][j] + prices[j]}) {
                next[u][v] = Math.min(next[u][v], Math.max(sum, least[u][v]));
                least[u][v] = Math.min(least[u][v], sum);
            }
        }
    }
}
