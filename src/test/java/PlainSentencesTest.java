/** The sentences of the document that name no edge: for each one that no other test names, a test of its own. */
public final class PlainSentencesTest {
    private static final int[] LEFTS = {1, 1, 0, 2, 1, 2, 2};
    private static final int[] RIGHTS = {1, 0, 1, 1, 2, 2, 2};
    private static final int FAR = 1000000;

    public static void main(String[] args) {
        waysLayAll();
        crossedOnesGoTogether();
        bestOfTheLeastSum();
        bestKeepsAllThis();
        sharesOfKinds();
        sentence();
        joint();
        price();
        priceOfWhatIsNotAllowed();
        rest();
        restByAllowedJoints();
        link();
        linked();
        read();
        spell();
        rate();
        Checks.end();
    }

    /** So many sentences, of lengths that are unlike and not in order. */
    private static String text(int sentences, int step) {
        StringBuilder text = new StringBuilder();
        for (int s = 0; s < sentences; s++) {
            text.append("abcdefghij", 0, 1 + (s * step + step / 2) % 9).append(s % 3 == 2 ? "\n" : ". ");
        }
        return text.toString();
    }

    // ---- section 2

    private static void waysLayAll() {
        Checks.says("Section 2", "A WAY lays all SENTENCES of both BOOKS side by side, in order, by JOINTS");
        for (int l = 0; l <= 20; l += l < 4 ? 1 : 4) {
            for (int r = 0; r <= 20; r += r < 4 ? 1 : 4) {
                SideBySide x = Checks.books(text(l, 4), text(r, 7));
                dueWay(l + " and " + r, x);
                x.keep(true);
                dueWay(l + " and " + r + ", kept", x);
                x.keep(false);
                x.fast(l / 2, r / 3);
                x.fast(l / 2 + 1, r / 3 - 1);
                x.rounds(2);
                dueWay(l + " and " + r + ", pairs, rounds", x);
            }
        }
    }

    /** Each joint begins where the one ahead of it ends; the last one ends where both books do. */
    private static void dueWay(String when, SideBySide x) {
        int i = 0;
        int j = 0;
        int joints = x.lay();
        for (int k = 0; k < joints; k++) {
            int kind = x.joint(k, 0);
            Checks.due(when + ": joint(" + k + ", 1)", x.joint(k, 1), i);
            Checks.due(when + ": joint(" + k + ", 2)", x.joint(k, 2), j);
            i += LEFTS[kind];
            j += RIGHTS[kind];
        }
        Checks.due(when + ": left sentences", i, x.count(0, 0));
        Checks.due(when + ": right sentences", j, x.count(1, 0));
    }

    private static void crossedOnesGoTogether() {
        Checks.says("Section 2", "the first one goes with the second one, the second one with the first one.");
        SideBySide across = Checks.books("a. bbb", "uuu. v");
        Checks.due("1 with 1, 3 with 3", across.price(6, 0, 0), 480);
        SideBySide along = Checks.books("a. bbb", "u. vvv");
        Checks.due("1 with 3: 8 20 / 16; 3 with 1 likewise", along.price(6, 0, 0), 480 + 100 + 100);
        along.term(0, 1);
        Checks.due("a goes with vvv", along.price(6, 0, 0), 480 + 200 - 15);
        along.term(1, 0);
        Checks.due("bbb goes with u", along.price(6, 0, 0), 480 + 200 - 30);
        across.term(0, 0);
        across.term(1, 1);
        Checks.due("a goes with uuu, which stands first", across.price(6, 0, 0), 480);
    }

    private static void bestOfTheLeastSum() {
        Checks.says("Section 2", "THE BEST: a WAY that keeps all this, of the least sum of PRICES");
        for (int l = 0; l <= 5; l++) {
            for (int r = 0; r <= 5; r++) {
                for (int step = 1; step < 9; step += 2) {
                    SideBySide x = Checks.books(text(l, step), text(r, step + 1));
                    String when = l + " and " + r + ", " + step;
                    Checks.due(when, sumOfBest(x), leastSum(prices(x), 0, 0));
                    x.rounds(1);
                    Checks.due(when + ", behind a round", sumOfBest(x), leastSum(prices(x), 0, 0));
                }
            }
        }
    }

    private static int sumOfBest(SideBySide x) {
        int sum = 0;
        int joints = x.lay();
        for (int k = 0; k < joints; k++) {
            sum += x.joint(k, 3);
        }
        return sum;
    }

    /** The price of each kind at each place, FAR where its sentences are not there: an object answers 512 calls only. */
    private static int[][][] prices(SideBySide x) {
        int lefts = x.count(0, 0);
        int rights = x.count(1, 0);
        int[][][] prices = new int[lefts + 1][rights + 1][7];
        for (int i = 0; i <= lefts; i++) {
            for (int j = 0; j <= rights; j++) {
                for (int kind = 0; kind < 7; kind++) {
                    boolean there = i + LEFTS[kind] <= lefts && j + RIGHTS[kind] <= rights;
                    prices[i][j][kind] = there ? x.price(kind, i, j) : FAR;
                }
            }
        }
        return prices;
    }

    /** By trying each way from there, in books with no pairs whose paragraphs are not kept. */
    private static int leastSum(int[][][] prices, int i, int j) {
        int least = i == prices.length - 1 && j == prices[0].length - 1 ? 0 : FAR;
        for (int kind = 0; kind < 7; kind++) {
            if (prices[i][j][kind] != FAR) {
                least = Math.min(least, prices[i][j][kind] + leastSum(prices, i + LEFTS[kind], j + RIGHTS[kind]));
            }
        }
        return least;
    }

    private static void bestKeepsAllThis() {
        Checks.says("Section 2", "a WAY that keeps all this, of the least sum of PRICES");
        SideBySide x = Checks.books("a. bb.\nccc", "u.\nvv. www");
        Checks.dueText("as they are", Checks.kinds(x), "000");
        x.fast(0, 1);
        // Two and two, 440; a with u and vv, then bb alone, would be dearer.
        Checks.dueText("a pair", Checks.kinds(x), "50");
        x.loosen(0);
        x.keep(true);
        Checks.dueText("paragraphs", Checks.kinds(x), "34");
        x.fast(0, 0);
        Checks.dueText("both", Checks.kinds(x), "34");
        x.fast(1, 2);
        Checks.dueText("both, and a pair in two paragraphs", Checks.kinds(x), "-");
    }

    // ---- section 3

    private static void sharesOfKinds() {
        Checks.says("Section 3", "SHARES: of a KIND a of THE LEFT and a KIND b of THE RIGHT, or NO WORD, in parts of UNIT, "
            + "1048576.");
        SideBySide x = Checks.books("a b a. b a", "u v w u u. v");
        for (int a = 0; a < 2; a++) {
            for (int b = -1; b < 3; b++) {
                Checks.due("a fourth each: share(" + a + ", " + b + ")", x.share(a, b), 1048576 / 4);
            }
        }
        Checks.due("two left kinds of five words", x.share(2, 0), Checks.UNKNOWN);
        Checks.due("three right kinds of six words", x.share(0, 3), Checks.UNKNOWN);
        x.term(1, 2);
        Checks.due("all of it", x.share(1, 2), 1048576);
        Checks.due("of b alone", x.share(0, 2), 1048576 / 4);
    }

    // ---- promises 7 and 15 to 17

    private static void sentence() {
        Checks.says("Promise 7", "Of SENTENCE s of BOOK b: what = 0 WORDS, 1 LENGTH, 2 PARAGRAPH.");
        SideBySide x = Checks.books("One two. 3.5!\nFour five six", "Uno.\n\nDue tre\nQuattro?");
        int[][][] want = {{{2, 6, 0}, {1, 3, 0}, {3, 11, 1}}, {{1, 3, 0}, {2, 6, 1}, {1, 7, 2}}};
        for (int b = 0; b < 2; b++) {
            for (int s = 0; s < 3; s++) {
                for (int what = 0; what < 3; what++) {
                    Checks.due("sentence(" + b + ", " + s + ", " + what + ")", x.sentence(b, s, what), want[b][s][what]);
                }
            }
        }
    }

    private static void joint() {
        Checks.says("Promise 15", "JOINT k of THE BEST: what = 0 KIND, 1 its first LEFT SENTENCE, 2 its first RIGHT one (the "
            + "next one, where it has none on that side), 3 its PRICE.");
        // Each paragraph has a KIND of its own; the pair makes 5 of what would be two of KIND 0.
        SideBySide x = Checks.books("a\nb.c\nd\ne.f\ng.h", "r\ns\nt.u\nv.w\nxx");
        x.keep(true);
        x.fast(4, 5);
        int[][] want = {{0, 0, 0, 0}, {3, 1, 1, 266}, {4, 3, 2, 266}, {5, 4, 4, 440}, {3, 6, 6, 230}};
        dueJoints(x, want);
        SideBySide alone = Checks.books("a.b.c", "u");
        dueJoints(alone, new int[][] {{1, 0, 0, 450}, {3, 1, 0, 246}});
        SideBySide turned = Checks.books("a", "u.v.w");
        dueJoints(turned, new int[][] {{2, 0, 0, 450}, {4, 0, 1, 246}});
    }

    private static void dueJoints(SideBySide x, int[][] want) {
        Checks.due("lay()", x.lay(), want.length);
        for (int k = 0; k < want.length; k++) {
            for (int what = 0; what < 4; what++) {
                Checks.due("joint(" + k + ", " + what + ")", x.joint(k, what), want[k][what]);
            }
        }
    }

    private static void price() {
        Checks.says("Promise 16", "The PRICE of a JOINT of a KIND from LEFT SENTENCE i and RIGHT SENTENCE j on.");
        // Lengths 1, 2, 3 of 6 and 3, 2, 1 of 6, so that l R - r L is six times l - r.
        SideBySide x = Checks.books("a.bb.ccc", "uuu.vv.w");
        int[][] zero = {{100, 36, 0}, {16, 0, 36}, {0, 16, 100}};
        for (int i = 0; i < 3; i++) {
            for (int j = 0; j < 3; j++) {
                Checks.due("price(0, " + i + ", " + j + ")", x.price(0, i, j), zero[i][j]);
                Checks.due("price(1, " + i + ", " + j + ")", x.price(1, i, j), 450);
                Checks.due("price(2, " + i + ", " + j + ")", x.price(2, i, j), 450);
            }
        }
        Checks.due("1, 2 with 3", x.price(3, 0, 0), 230);
        Checks.due("2, 3 with 1: 4 20 / 6", x.price(3, 1, 2), 230 + 13 * 13);
        Checks.due("1 with 3, 2: 4 20 / 6", x.price(4, 0, 0), 230 + 13 * 13);
        Checks.due("3 with 2, 1", x.price(4, 2, 1), 230);
        Checks.due("1, 2 with 3, 2: 2 20 / 8", x.price(5, 0, 0), 440 + 25);
        Checks.due("2, 3 with 3, 2", x.price(5, 1, 0), 440);
        Checks.due("1 with 1, 2 with 2", x.price(6, 0, 1), 480);
        Checks.due("2 with 2, 3 with 3", x.price(6, 1, 0), 480);
        Checks.due("1 with 2: 1 20 / 3; 2 with 3: 1 20 / 5", x.price(6, 0, 0), 480 + 36 + 16);
    }

    private static void priceOfWhatIsNotAllowed() {
        Checks.says("Promise 16", "The PRICE of a JOINT of a KIND");
        SideBySide x = Checks.books("a.\nbb", "uu.\nv");
        SideBySide bound = Checks.books("a.\nbb", "uu.\nv");
        bound.keep(true);
        bound.fast(0, 1);
        Checks.due("no way", bound.lay(), Checks.NONE);
        for (int kind = 0; kind < 7; kind++) {
            Checks.due("price(" + kind + ", 0, 0)", bound.price(kind, 0, 0), x.price(kind, 0, 0));
        }
    }

    private static void rest() {
        Checks.says("Promise 17", "The least sum of PRICES that lays LEFT SENTENCES from i on beside RIGHT ones from j on");
        for (int step = 1; step < 9; step += 3) {
            SideBySide x = Checks.books(text(4, step), text(5, step + 1));
            x.rounds(1);
            int[][][] prices = prices(x);
            for (int i = 0; i <= 4; i++) {
                for (int j = 0; j <= 5; j++) {
                    Checks.due(step + ": rest(" + i + ", " + j + ")", x.rest(i, j), leastSum(prices, i, j));
                }
            }
        }
    }

    private static void restByAllowedJoints() {
        Checks.says("Promise 17", "by JOINTS that section 2 allows.");
        SideBySide x = Checks.books("a.b\nc", "u\nv.w");
        int no = Checks.NOT;
        int[][] free = {{0, 266, 716, 1350}, {266, 0, 266, 900}, {716, 266, 0, 450}, {1350, 900, 450, 0}};
        int[][] kept = {{532, 1166, no, no}, {266, 716, no, no}, {716, 266, 0, 450}, {no, 900, 450, 0}};
        int[][] pair = {{440, 266, no, no}, {no, no, 266, 900}, {no, no, 0, 450}, {no, no, 450, 0}};
        dueRests("as they are", x, free);
        x.keep(true);
        dueRests("paragraphs", x, kept);
        x.keep(false);
        x.fast(0, 1);
        dueRests("a pair", x, pair);
    }

    private static void dueRests(String when, SideBySide x, int[][] want) {
        for (int i = 0; i <= 3; i++) {
            for (int j = 0; j <= 3; j++) {
                Checks.due(when + ": rest(" + i + ", " + j + ")", x.rest(i, j), want[i][j]);
            }
        }
    }

    // ---- promises 25 and 26

    /** The second joint has the words c d e and w x y: c goes with x, d with w, e with none of them. */
    private static SideBySide secondJoint() {
        SideBySide x = Checks.books("a b. c d e", "u v. w x y");
        x.term(2, 3);
        x.term(3, 2);
        x.term(4, 0);
        Checks.dueText("one and one, twice", Checks.kinds(x), "00");
        return x;
    }

    private static void link() {
        Checks.says("Promise 25", "Of JOINT k of THE BEST: way = 0 where the LINK FROM LEFT WORD x leads, 1 FROM RIGHT WORD x "
            + "(NONE: nowhere).");
        SideBySide x = secondJoint();
        int[][] want = {{1, 0, Checks.NONE}, {1, 0, Checks.NONE}};
        for (int way = 0; way < 2; way++) {
            for (int w = 0; w < 3; w++) {
                Checks.due("link(1, " + way + ", " + w + ")", x.link(1, way, w), want[way][w]);
            }
        }
        Checks.due("the first joint: a leads nowhere", x.link(0, 0, 0), Checks.NONE);
        Checks.due("the first joint: v leads to b", x.link(0, 1, 1), 1);
    }

    private static void linked() {
        Checks.says("Promise 26", "Whether LEFT WORD x and RIGHT WORD y of JOINT k are BOTH (what = 0), GROWN (1): 1, 0.");
        SideBySide x = secondJoint();
        x.change(0, 1, 2, 3);
        // e is a d now: it leads to w, which leads to the other d.
        int[][][] want = {{{0, 1, 0}, {1, 0, 0}, {0, 0, 0}}, {{0, 1, 0}, {1, 0, 0}, {1, 0, 0}}};
        for (int what = 0; what < 2; what++) {
            for (int l = 0; l < 3; l++) {
                for (int r = 0; r < 3; r++) {
                    Checks.due("linked(1, " + what + ", " + l + ", " + r + ")", x.linked(1, what, l, r), want[what][l][r]);
                }
            }
        }
        Checks.due("the first joint has none of it", x.linked(0, 1, 0, 1), 0);
    }

    // ---- promises 34 to 36

    private static void read() {
        Checks.says("Promise 34", "Place i of the ROW of SLOT s.");
        SideBySide x = new SideBySide();
        x.putRow(3, 4);
        x.putRow(4, 2);
        for (int i = 0; i < 4; i++) {
            x.write(3, i, 10 * i - 7);
        }
        for (int i = 0; i < 4; i++) {
            Checks.due("read(3, " + i + ")", x.read(3, i), 10 * i - 7);
            Checks.due("it stays", x.read(3, i), 10 * i - 7);
        }
        Checks.due("another slot", x.read(4, 1), 0);
    }

    private static void spell() {
        Checks.says("Promise 35", "Into the ROW of SLOT r, from place i on, come the KINDS of the WORDS of the SENTENCE of SLOT "
            + "s, as they were when it was laid: how many.");
        SideBySide x = Checks.books("a b. c b a c", "u");
        x.putSentence(2, 0, 1);
        x.putRow(5, 7);
        x.putRow(6, 7);
        Checks.due("spell(2, 5, 2)", x.spell(2, 5, 2), 4);
        int[] want = {0, 0, 2, 1, 0, 2, 0};
        for (int i = 0; i < 7; i++) {
            Checks.due("read(5, " + i + ")", x.read(5, i), want[i]);
            Checks.due("another row: read(6, " + i + ")", x.read(6, i), 0);
        }
        Checks.due("the sentence stays there", x.sort(2), 1);
    }

    private static void rate() {
        Checks.says("Promise 36", "The PRICE that the JOINT of SLOT s had when it was laid, in hundredths for each WORD of its "
            + "LEFT side: 100 times the PRICE / these WORDS.");
        SideBySide x = Checks.books("a b. c d e. f", "uuuu. vvv");
        Checks.dueText("one and one, two and one", Checks.kinds(x), "03");
        x.putJoint(6, 1);
        x.putJoint(7, 0);
        // Lengths 4 of 6 and 3 of 7, 28 and 18: 10 20 / 46 is 4; then 2 of 6 and 4 of 7, 14 and 24: 10 20 / 38 is 5.
        Checks.due("joint(1, 3)", x.joint(1, 3), 246);
        Checks.due("246 for 4 words", x.rate(6), 6150);
        Checks.due("25 for 2 words", x.rate(7), 1250);
        x.term(0, 0);
        x.change(0, 0, 1, 2);
        Checks.book(x, 1, "w");
        Checks.due("as it was when it was laid", x.rate(7), 1250);
    }
}
