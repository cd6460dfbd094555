/** Section 2 and promises 11 to 19: for each sentence that names an edge a test of its own. */
public final class LayingEdgeTest {
    private static final int[] LEFTS = {1, 1, 0, 2, 1, 2, 2};
    private static final int[] RIGHTS = {1, 0, 1, 1, 2, 2, 2};
    private static final String LETTERS_38 = "bbbbbbbbbb bbbbbbbbbb bbbbbbbbbb bbbbbbbb";
    private static final String LETTERS_39 = LETTERS_38 + "b";

    public static void main(String[] args) {
        sidesOfKinds();
        pricesOfKinds();
        leastAndGreatestStretch();
        greatestLengths();
        sixWordsAtMost();
        sixWordsOfCrossedOnes();
        twentyPairs();
        oneNeedsTheOther();
        crossedPairs();
        keptParagraphs();
        keptAtTheEnds();
        keptAsFarAsBothHave();
        lesserKindOfSeveral();
        noWay();
        fastBounds();
        fastAlready();
        fastAcross();
        fastFull();
        loosenBounds();
        loosenOneOrNone();
        keep();
        layLeastAndGreatest();
        jointBounds();
        jointNextOne();
        priceBounds();
        restBounds();
        restNot();
        secondNot();
        secondAsDear();
        sureBounds();
        sureAtMost();
        sureInEveryWay();
        Checks.end();
    }

    private static String sentences(String word, int n) {
        return (word + ".").repeat(n);
    }

    // ---- section 2

    private static void sidesOfKinds() {
        Checks.says("Section 2", "KIND 0 one of THE LEFT, one of THE RIGHT; 1 one of THE LEFT alone; 2 one of THE RIGHT "
            + "alone; 3 two of THE LEFT, one of THE RIGHT; 4 one and two; 5 two and two; 6 two and two CROSSED");
        for (int kind = 0; kind < 7; kind++) {
            for (int l = 0; l <= 3; l++) {
                for (int r = 0; r <= 3; r++) {
                    SideBySide x = Checks.books(sentences("a", l), sentences("u", r));
                    boolean fits = l >= LEFTS[kind] && r >= RIGHTS[kind];
                    Checks.due("price(" + kind + ", 0, 0) of " + l + " and " + r + " is UNKNOWN",
                        x.price(kind, 0, 0) == Checks.UNKNOWN ? 1 : 0, fits ? 0 : 1);
                }
            }
        }
    }

    private static void pricesOfKinds() {
        Checks.says("Section 2", "PRICES: of a KIND 0, 450, 450, 230, 230, 440, 480; and, but for 1 and 2, of LENGTHS");
        int[] want = {0, 450, 450, 230, 230, 440, 480};
        for (int kind = 0; kind < 7; kind++) {
            // All of both books lies side by side, or as much in each half, so that lengths add nothing.
            String left = LEFTS[kind] == 1 ? "aa" : "a.a";
            String right = RIGHTS[kind] == 1 ? "uu" : "u.u";
            Checks.due("price(" + kind + ", 0, 0)", Checks.books(left, right).price(kind, 0, 0), want[kind]);
        }
        SideBySide x = Checks.books("a." + LETTERS_39, LETTERS_39 + ".u");
        Checks.due("1 has no lengths", x.price(1, 0, 0), 450);
        Checks.due("2 has no lengths", x.price(2, 0, 0), 450);
    }

    private static void leastAndGreatestStretch() {
        Checks.says("Section 2", "d is (the size of l R - r L) 20 / (l R + r L), d d more");
        SideBySide x = Checks.books("a." + LETTERS_39, LETTERS_39 + ".u");
        Checks.due("1 of 40 and 1 of 40", x.price(0, 0, 1), 0);
        Checks.due("1 of 40 and 39 of 40", x.price(0, 0, 0), 19 * 19);
        Checks.due("39 of 40 and 1 of 40", x.price(0, 1, 1), 19 * 19);
        SideBySide y = Checks.books("a." + LETTERS_38, LETTERS_38 + ".u");
        Checks.due("1 of 39 and 38 of 39: 18.97", y.price(0, 0, 0), 18 * 18);
        Checks.says("Section 2", "of 6 that of its first with the second one and of its second with the first one, both.");
        Checks.due("none in both", x.price(6, 0, 0), 480);
        SideBySide z = Checks.books("a." + LETTERS_39, "u." + LETTERS_39);
        Checks.due("the greatest in both", z.price(6, 0, 0), 480 + 2 * 19 * 19);
    }

    /** Twenty sentences of ten words of ten letters, which no tape has room for: by change(). */
    private static void makeAllWordsLong(SideBySide x, int b) {
        Checks.book(x, b, "abcdefghij a a a a a a a a a." + "a a a a a a a a a a.".repeat(19));
        for (int n = 1; n < 200; n++) {
            x.change(b, n / 10, n % 10, 0);
        }
    }

    private static void greatestLengths() {
        Checks.says("Section 2", "with l, r the LENGTHS of both sides, L, R those of both BOOKS in all");
        SideBySide x = new SideBySide();
        makeAllWordsLong(x, 0);
        makeAllWordsLong(x, 1);
        Checks.due("LENGTH of the left", x.count(0, 4), 2000);
        Checks.due("LENGTH of the right", x.count(1, 4), 2000);
        Checks.due("100 and 100", x.price(0, 19, 19), 0);
        Checks.due("200 and 200", x.price(5, 18, 18), 440);
        Checks.due("200 and 100: 400000 and 200000", x.price(3, 18, 19), 230 + 36);
        Checks.due("all", x.rest(0, 0), 0);
    }

    private static void sixWordsAtMost() {
        Checks.says("Section 2", "Less 15 for each WORD of its LEFT side whose KIND has a PARTNER (section 3) that is a KIND "
            + "of some WORD of its RIGHT side (of 6: of the one that it goes with), for 6 such WORDS at most. (A PRICE may "
            + "be below 0.)");
        for (int n = 0; n <= 10; n++) {
            SideBySide x = Checks.books("b " + "a ".repeat(Math.min(n, 9)) + (n == 10 ? ". a" : ""), "u v");
            if (n > 0) {
                x.term(1, 0);
            }
            int kind = n == 10 ? 3 : 0;
            int want = (n == 10 ? 230 : 0) - 15 * Math.min(n, 6);
            Checks.due(n + " words with a partner there", x.price(kind, 0, 0), want);
        }
        SideBySide x = Checks.books("a a. b", "u. v");
        x.term(0, 1);
        Checks.due("a partner that is not there", x.price(0, 0, 0), 4);
        Checks.due("a partner that is there, for two words", x.price(0, 0, 1), 4 - 30);
        Checks.due("alone", x.price(1, 0, 0), 450);
        Checks.due("alone", x.price(2, 0, 1), 450);
        SideBySide least = Checks.books("a a a a a a.".repeat(20), sentences("u", 20));
        least.term(0, 0);
        Checks.due("the least sum that there can be", least.rest(0, 0), 20 * -90);
        SideBySide unlike = Checks.books("a b c", "u. v. w");
        unlike.term(0, 2);
        Checks.due("a right sentence beyond those of the left", unlike.price(0, 0, 2), 100 - 15);
        Checks.due("a right sentence without it", unlike.price(0, 0, 0), 100);
    }

    private static void sixWordsOfCrossedOnes() {
        Checks.says("Section 2", "(of 6: of the one that it goes with), for 6 such WORDS at most.");
        Checks.due("three and two", crossed("a a a. b b", 1, 0), 480 + 1 + 4 - 75);
        Checks.due("three and three", crossed("a a a. b b b", 1, 0), 480 - 90);
        Checks.due("three and four", crossed("a a a. b b b b", 1, 0), 480 + 1 + 1 - 90);
        Checks.due("only the second one goes with it", crossed("a a a. b b b", 0, 0), 480 - 45);
        Checks.due("only the first one goes with it", crossed("a a a. b b b", 1, 1), 480 - 45);
        Checks.due("none goes with it", crossed("a a a. b b b", 0, 1), 480);
    }

    private static int crossed(String left, int partnerOfA, int partnerOfB) {
        SideBySide x = Checks.books(left, "u u. v v");
        x.term(0, partnerOfA);
        x.term(1, partnerOfB);
        return x.price(6, 0, 0);
    }

    private static void twentyPairs() {
        Checks.says("Section 2", "FAST pairs (20 at most) are SENTENCES, one of each BOOK, told to go with one another");
        SideBySide x = Checks.books(sentences("a", 20), sentences("u", 20));
        for (int i = 19; i >= 0; i--) {
            Checks.due("fast(" + i + ", " + i + ")", x.fast(i, i), 20 - i);
        }
        Checks.dueText("each goes with its own", Checks.kinds(x), "0".repeat(20));
        Checks.due("two pairs in one joint", x.second(), 440);
    }

    private static void oneNeedsTheOther() {
        Checks.says("Section 2", "a JOINT that has one of them has to have the other one, too");
        SideBySide x = Checks.books("a.b", "u.v");
        x.fast(0, 1);
        int no = Checks.NOT;
        int[][] want = {{440, 266, no}, {no, no, 450}, {no, no, 0}};
        for (int i = 0; i <= 2; i++) {
            for (int j = 0; j <= 2; j++) {
                Checks.due("rest(" + i + ", " + j + ")", x.rest(i, j), want[i][j]);
            }
        }
        SideBySide y = Checks.books("a.b", "u.v");
        y.fast(1, 0);
        int[][] turned = {{440, no, no}, {266, no, no}, {no, 450, 0}};
        for (int i = 0; i <= 2; i++) {
            for (int j = 0; j <= 2; j++) {
                Checks.due("the other pair: rest(" + i + ", " + j + ")", y.rest(i, j), turned[i][j]);
            }
        }
    }

    private static void crossedPairs() {
        Checks.says("Section 2", "(of KIND 6: they go with one another)");
        // Two and two costs 440, crossed 480; what comes next is a joint of three and one sentence alone, 680.
        int[][] pairs = {{0, 0, 680}, {1, 1, 680}, {0, 1, 480}, {1, 0, 480}};
        for (int[] pair : pairs) {
            SideBySide x = Checks.books("a." + LETTERS_39, LETTERS_39 + ".u");
            Checks.due("nothing fast: second()", x.second(), 480);
            x.fast(pair[0], pair[1]);
            Checks.due("fast(" + pair[0] + ", " + pair[1] + "): rest(0, 0)", x.rest(0, 0), 440);
            Checks.due("fast(" + pair[0] + ", " + pair[1] + "): second()", x.second(), pair[2]);
        }
    }

    private static void keptParagraphs() {
        Checks.says("Section 2", "each JOINT of a WAY, ahead of which i and j SENTENCES are laid, behind which i' and j', has "
            + "i' not above E and j' not above F, or i not below E and j not below F.");
        SideBySide x = Checks.books("a\nb", "u\nv");
        Checks.due("not kept: two and two", x.second(), 440);
        x.keep(true);
        Checks.due("kept: one and one", x.rest(0, 0), 0);
        Checks.due("kept: no joint goes over the end", x.second(), 900);
        SideBySide y = Checks.books("a.b\nc", "u\nv.w");
        y.keep(true);
        Checks.dueText("two and one, one and two", Checks.kinds(y), "34");
        SideBySide z = Checks.books("a\nb.c", "u.v\nw");
        z.keep(true);
        Checks.dueText("one and two, two and one", Checks.kinds(z), "43");
    }

    private static void keptAtTheEnds() {
        Checks.says("Section 2", "with E and F SENTENCES of THE LEFT, THE RIGHT in PARAGRAPHS up to k");
        SideBySide x = Checks.books("a\nb", "u\nv");
        x.keep(true);
        int no = Checks.NOT;
        int[][] want = {{0, 450, no}, {450, 0, 450}, {no, 450, 0}};
        for (int i = 0; i <= 2; i++) {
            for (int j = 0; j <= 2; j++) {
                Checks.due("rest(" + i + ", " + j + ")", x.rest(i, j), want[i][j]);
            }
        }
    }

    private static void keptAsFarAsBothHave() {
        Checks.says("Section 2", "When PARAGRAPHS are KEPT, then for each k, as far as both BOOKS have a PARAGRAPH k");
        String[][] books = {{"a\nb", "u.v", "41"}, {"a.b", "u\nv", "32"}, {"a\nb\nc", "u\nv", "001"},
            {"a\nb", "u\nv\nw", "002"}, {"a\nb", "", "11"}, {"", "u\nv", "22"}, {"", "", ""}, {"a.b", "u.v", "00"}};
        for (String[] b : books) {
            SideBySide x = Checks.books(b[0], b[1]);
            x.keep(true);
            Checks.dueText("'" + b[0] + "' beside '" + b[1] + "'", Checks.kinds(x), b[2]);
        }
    }

    private static void lesserKindOfSeveral() {
        Checks.says("Section 2", "of several that whose first JOINT that differs is of the lesser KIND.");
        Checks.dueText("13 and 31", Checks.kinds(Checks.books("a.b.c", "u")), "13");
        Checks.dueText("24 and 42", Checks.kinds(Checks.books("a", "u.v.w")), "24");
        Checks.dueText("03 and 30", Checks.kinds(Checks.books("a.b.c", "u.v")), "03");
        Checks.dueText("003, 030 and 300", Checks.kinds(Checks.books("a.b.c.d", "u.v.w")), "003");
        Checks.dueText("0004 and others", Checks.kinds(Checks.books("a.b.c.d", "u.v.w.x.y")), "0004");
    }

    private static void noWay() {
        Checks.says("Section 2", "There may be none.");
        SideBySide x = Checks.withoutWay();
        Checks.due("lay()", x.lay(), Checks.NONE);
        Checks.due("joint(0, 0)", x.joint(0, 0), Checks.UNKNOWN);
        Checks.due("sure(0, 0)", x.sure(0, 0), Checks.UNKNOWN);
        Checks.due("rest(0, 0)", x.rest(0, 0), Checks.NOT);
        Checks.due("second()", x.second(), Checks.NOT);
        Checks.due("rounds(1)", x.rounds(1), 0);
        Checks.due("broken()", x.broken(), 0);
        Checks.due("link(0, 0, 0)", x.link(0, 0, 0), Checks.UNKNOWN);
        Checks.due("linked(0, 0, 0, 0)", x.linked(0, 0, 0, 0), Checks.UNKNOWN);
        Checks.due("phrases(0)", x.phrases(0), Checks.UNKNOWN);
        Checks.due("putJoint(0, 0)", x.putJoint(0, 0), Checks.UNKNOWN);
        Checks.due("prices are told still", x.price(0, 0, 0), 0);
        x.keep(false);
        Checks.due("there is one again", x.lay(), 1);
        SideBySide y = Checks.books("a\nb\nc", "u\nv\nw");
        y.keep(true);
        y.fast(1, 2);
        y.term(0, 0);
        Checks.due("a joint below 0 that leads nowhere: its price", y.price(0, 0, 0), -15);
        Checks.due("a joint below 0 that leads nowhere: lay()", y.lay(), Checks.NONE);
        Checks.due("a joint below 0 that leads nowhere: rest(0, 0)", y.rest(0, 0), Checks.NOT);
        Checks.due("a joint below 0 that leads nowhere: second()", y.second(), Checks.NOT);
    }

    // ---- promises 11 to 13

    private static int fastOnce(SideBySide x, int i, int j) {
        int answer = x.fast(i, j);
        x.loosen(i);
        return answer;
    }

    private static void fastBounds() {
        Checks.says("Promise 11", "LEFT SENTENCE i and RIGHT SENTENCE j are FAST: how many pairs. UNKNOWN.");
        SideBySide x = Checks.books(sentences("a", 20), sentences("u", 20));
        Checks.bounds("fast(i, 0)", i -> fastOnce(x, i, 0), 0, 19, Checks.UNKNOWN);
        Checks.bounds("fast(19, j)", j -> fastOnce(x, 19, j), 0, 19, Checks.UNKNOWN);
        SideBySide y = Checks.books("a.b", "u");
        Checks.bounds("fast(i, 0) of two and one", i -> fastOnce(y, i, 0), 0, 1, Checks.UNKNOWN);
        Checks.bounds("fast(0, j) of two and one", j -> fastOnce(y, 0, j), 0, 0, Checks.UNKNOWN);
        SideBySide empty = new SideBySide();
        Checks.due("fast(0, 0) of none", empty.fast(0, 0), Checks.UNKNOWN);
        Checks.book(empty, 0, "a");
        Checks.due("fast(0, 0) of one and none", empty.fast(0, 0), Checks.UNKNOWN);
    }

    private static void fastAlready() {
        Checks.says("Promise 11", "NOT: one of both is FAST already");
        SideBySide x = Checks.books("a.b.c", "u.v.w");
        Checks.due("fast(1, 1)", x.fast(1, 1), 1);
        for (int n = 0; n < 3; n++) {
            Checks.due("fast(1, " + n + ")", x.fast(1, n), Checks.NOT);
            Checks.due("fast(" + n + ", 1)", x.fast(n, 1), Checks.NOT);
        }
        Checks.due("another pair", x.fast(2, 2), 2);
    }

    private static void fastAcross() {
        Checks.says("Promise 11", "or another pair u, v is across: i - u and j - v have unlike signs (both not 0), and they "
            + "are not 1 and -1, -1 and 1.");
        for (int i = 0; i < 7; i++) {
            for (int j = 0; j < 7; j++) {
                SideBySide x = Checks.books(sentences("a", 7), sentences("u", 7));
                x.fast(3, 3);
                boolean likeSigns = (i - 3) * (j - 3) > 0;
                boolean neighbours = i == 2 && j == 4 || i == 4 && j == 2;
                Checks.due("fast(" + i + ", " + j + ")", x.fast(i, j), likeSigns || neighbours ? 2 : Checks.NOT);
            }
        }
        SideBySide far = Checks.books(sentences("a", 20), sentences("u", 20));
        far.fast(0, 19);
        Checks.due("as far as can be", far.fast(19, 0), Checks.NOT);
        SideBySide two = Checks.books(sentences("a", 7), sentences("u", 7));
        two.fast(1, 1);
        two.fast(5, 5);
        Checks.due("across the first one only", two.fast(3, 0), Checks.NOT);
        Checks.due("across the last one only", two.fast(3, 6), Checks.NOT);
        Checks.due("across none", two.fast(3, 3), 3);
        two.loosen(1);
        Checks.due("one that is fast no more is not across", two.fast(2, 0), 3);
    }

    private static void fastFull() {
        Checks.says("Promise 11", "FULL.");
        // Twenty pairs have all sentences that there can be, so that each further one is NOT, which goes first.
        SideBySide x = Checks.books(sentences("a", 20), sentences("u", 20));
        for (int i = 0; i < 20; i++) {
            Checks.due("pair " + i, x.fast(i, i), i + 1);
        }
        Checks.due("a 21st", x.fast(0, 0), Checks.NOT);
        Checks.due("a 21st", x.fast(19, 18), Checks.NOT);
        x.loosen(7);
        Checks.due("room for the 20th again", x.fast(7, 7), 20);
    }

    private static void loosenBounds() {
        Checks.says("Promise 12", "UNKNOWN.");
        SideBySide x = Checks.books(sentences("a", 20), "u");
        Checks.bounds("loosen()", x::loosen, 0, 19, Checks.UNKNOWN);
        SideBySide y = Checks.books("", "u");
        Checks.due("loosen(0) of none", y.loosen(0), Checks.UNKNOWN);
        SideBySide z = Checks.books("a", "u.v");
        Checks.bounds("loosen() of one", z::loosen, 0, 0, Checks.UNKNOWN);
    }

    private static void loosenOneOrNone() {
        Checks.says("Promise 12", "The pair of LEFT SENTENCE i is FAST no more: 1; 0: there was none.");
        SideBySide x = Checks.books("a.b.c", "u.v.w");
        x.fast(0, 1);
        x.fast(1, 2);
        Checks.due("a left one without a pair, whose number a right one has", x.loosen(2), 0);
        Checks.due("loosen(0)", x.loosen(0), 1);
        Checks.due("loosen(0) again", x.loosen(0), 0);
        Checks.due("the other pair stays", x.fast(1, 0), Checks.NOT);
        Checks.due("both sentences are free", x.fast(0, 1), 2);
        x.loosen(0);
        x.loosen(1);
        Checks.due("nothing is fast", x.rest(0, 0), 0);
    }

    private static void keep() {
        Checks.says("Promise 13", "Whether PARAGRAPHS are KEPT from now on: 1 if they were, 0.");
        SideBySide x = new SideBySide();
        Checks.due("keep(false) of a new one", x.keep(false), 0);
        Checks.due("keep(false) again", x.keep(false), 0);
        Checks.due("keep(true)", x.keep(true), 0);
        Checks.due("keep(true) again", x.keep(true), 1);
        Checks.book(x, 0, "a\nb");
        Checks.book(x, 1, "u.v");
        Checks.due("kept behind take()", x.rest(0, 0), 266 + 450);
        Checks.due("keep(false)", x.keep(false), 1);
        Checks.due("from now on", x.rest(0, 0), 0);
        Checks.due("keep(false) again", x.keep(false), 0);
    }

    // ---- promises 14 to 19

    private static void layLeastAndGreatest() {
        Checks.says("Promise 14", "How many JOINTS THE BEST has; NONE: there is no WAY.");
        Checks.due("none of nothing", new SideBySide().lay(), 0);
        Checks.due("one", Checks.books("a", "").lay(), 1);
        Checks.due("20 alone", Checks.books(sentences("a", 20), "").lay(), 20);
        Checks.due("20 alone", Checks.books("", sentences("u", 20)).lay(), 20);
        Checks.due("20 and 20", Checks.books(sentences("a", 20), sentences("u", 20)).lay(), 20);
        SideBySide x = Checks.books(sentences("a", 20), sentences("u", 20));
        x.fast(0, 19);
        Checks.dueText("18 alone, two and two, 18 alone", Checks.kinds(x), "2".repeat(18) + "5" + "1".repeat(18));
        SideBySide y = mostJoints();
        Checks.dueText("18 alone, one and two, 19 alone", Checks.kinds(y), "2".repeat(18) + "4" + "1".repeat(19));
        Checks.due("their sum", y.rest(0, 0), 37 * 450 + 230);
        SideBySide none = Checks.withoutWay();
        Checks.due("NONE", none.lay(), Checks.NONE);
    }

    /** Lengths 2, 100, 1 .. of 120 and .. 1, 1 of 120: the first left one goes with the last two right ones. */
    private static SideBySide mostJoints() {
        String long100 = "bbbbbbbbbb ".repeat(10).trim();
        String left = "aa." + long100 + "." + sentences("c", 18);
        String right = sentences("uuuuuu", 17) + "vvvvvvvv vvvvvvvv." + "w.w";
        SideBySide x = Checks.books(left, right);
        Checks.due("LENGTH of the left", x.count(0, 4), 120);
        Checks.due("LENGTH of the right", x.count(1, 4), 120);
        x.fast(0, 19);
        return x;
    }

    private static void jointBounds() {
        Checks.says("Promise 15", "UNKNOWN, OUTSIDE.");
        SideBySide x = mostJoints();
        Checks.bounds("joint(k, 0)", k -> x.joint(k, 0), 0, 37, Checks.UNKNOWN);
        Checks.bounds("joint(37, what)", what -> x.joint(37, what), 0, 3, Checks.OUTSIDE);
        SideBySide y = Checks.books("a", "u");
        Checks.bounds("joint(k, 3) of one", k -> y.joint(k, 3), 0, 0, Checks.UNKNOWN);
        Checks.bounds("joint(0, what)", what -> y.joint(0, what), 0, 3, Checks.OUTSIDE);
        SideBySide empty = new SideBySide();
        Checks.due("joint(0, 0) of none", empty.joint(0, 0), Checks.UNKNOWN);
    }

    private static void jointNextOne() {
        Checks.says("Promise 15", "1 its first LEFT SENTENCE, 2 its first RIGHT one (the next one, where it has none on that "
            + "side)");
        SideBySide x = mostJoints();
        int[][] joints = {{0, 2, 0, 0, 450}, {17, 2, 0, 17, 450}, {18, 4, 0, 18, 230}, {19, 1, 1, 20, 450},
            {37, 1, 19, 20, 450}};
        for (int[] want : joints) {
            for (int what = 0; what < 4; what++) {
                Checks.due("joint(" + want[0] + ", " + what + ")", x.joint(want[0], what), want[what + 1]);
            }
        }
        SideBySide y = Checks.books("", "u.v");
        Checks.due("no left one at all", y.joint(1, 1), 0);
        SideBySide z = Checks.books("a", "u\nv");
        z.keep(true);
        Checks.dueText("v is alone behind all of the left", Checks.kinds(z), "02");
        Checks.due("the next left one, which there is not", z.joint(1, 1), 1);
    }

    private static void priceBounds() {
        Checks.says("Promise 16", "OUTSIDE: KIND; UNKNOWN: it has SENTENCES that there are not.");
        SideBySide x = Checks.books(sentences("a", 20), sentences("u", 20));
        Checks.bounds("price(kind, 0, 0)", kind -> x.price(kind, 0, 0), 0, 6, Checks.OUTSIDE);
        for (int n = 0; n < 7; n++) {
            int kind = n;
            if (LEFTS[kind] > 0) {
                Checks.bounds("price(" + kind + ", i, 0)", i -> x.price(kind, i, 0), 0, 20 - LEFTS[kind], Checks.UNKNOWN);
            }
            if (RIGHTS[kind] > 0) {
                Checks.bounds("price(" + kind + ", 0, j)", j -> x.price(kind, 0, j), 0, 20 - RIGHTS[kind], Checks.UNKNOWN);
            }
        }
        for (int n : new int[] {-1, 20, 21, Integer.MIN_VALUE, Integer.MAX_VALUE}) {
            Checks.due("price(1, 19, " + n + "): it has no right one", x.price(1, 19, n), 450);
            Checks.due("price(2, " + n + ", 19): it has no left one", x.price(2, n, 19), 450);
        }
        SideBySide empty = new SideBySide();
        for (int kind = 0; kind < 7; kind++) {
            Checks.due("price(" + kind + ", 0, 0) of none", empty.price(kind, 0, 0), Checks.UNKNOWN);
        }
    }

    private static void restBounds() {
        Checks.says("Promise 17", "(i, j up to how many there are)");
        SideBySide x = Checks.books(sentences("a", 20), sentences("u", 20));
        Checks.bounds("rest(i, 0)", i -> x.rest(i, 0), 0, 20, Checks.UNKNOWN);
        Checks.bounds("rest(20, j)", j -> x.rest(20, j), 0, 20, Checks.UNKNOWN);
        Checks.due("rest(20, 20)", x.rest(20, 20), 0);
        Checks.due("rest(19, 19)", x.rest(19, 19), 0);
        Checks.due("rest(20, 0)", x.rest(20, 0), 9000);
        Checks.due("rest(0, 20)", x.rest(0, 20), 9000);
        SideBySide empty = new SideBySide();
        Checks.bounds("rest(i, 0) of none", i -> empty.rest(i, 0), 0, 0, Checks.UNKNOWN);
        Checks.bounds("rest(0, j) of none", j -> empty.rest(0, j), 0, 0, Checks.UNKNOWN);
        Checks.due("rest(0, 0) of none", empty.rest(0, 0), 0);
        SideBySide few = Checks.books("a", "u.v.w");
        Checks.bounds("rest(i, 3) of one and three", i -> few.rest(i, 3), 0, 1, Checks.UNKNOWN);
        Checks.bounds("rest(1, j) of one and three", j -> few.rest(1, j), 0, 3, Checks.UNKNOWN);
        SideBySide many = Checks.books("a.b.c", "u");
        Checks.bounds("rest(i, 1) of three and one", i -> many.rest(i, 1), 0, 3, Checks.UNKNOWN);
        Checks.bounds("rest(3, j) of three and one", j -> many.rest(3, j), 0, 1, Checks.UNKNOWN);
        SideBySide y = Checks.books("a a a a a a", "u");
        y.term(0, 0);
        Checks.due("below 0", y.rest(0, 0), -90);
    }

    private static void restNot() {
        Checks.says("Promise 17", "NOT: there is none; UNKNOWN.");
        SideBySide x = Checks.books("a\nb", "u\nv");
        x.keep(true);
        Checks.due("rest(2, 0): v is a paragraph behind", x.rest(2, 0), Checks.NOT);
        Checks.due("rest(0, 2)", x.rest(0, 2), Checks.NOT);
        x.keep(false);
        x.fast(0, 0);
        Checks.due("rest(1, 0): what it goes with is laid", x.rest(1, 0), Checks.NOT);
        Checks.due("rest(0, 1)", x.rest(0, 1), Checks.NOT);
        Checks.due("rest(1, 1): the pair is laid", x.rest(1, 1), 0);
        x.loosen(0);
        Checks.due("rest(1, 0) then", x.rest(1, 0), 266);
    }

    private static void secondNot() {
        Checks.says("Promise 18", "The least sum of PRICES of all WAYS but THE BEST. NOT: there is none.");
        Checks.due("nothing to lay", new SideBySide().second(), Checks.NOT);
        Checks.due("one way", Checks.books("a", "").second(), Checks.NOT);
        Checks.due("one way of 20", Checks.books("", sentences("u", 20)).second(), Checks.NOT);
        SideBySide x = Checks.books("a", "u");
        Checks.due("three ways", x.second(), 900);
        x.fast(0, 0);
        Checks.due("one way", x.second(), Checks.NOT);
        SideBySide none = Checks.withoutWay();
        Checks.due("no way", none.second(), Checks.NOT);
        SideBySide below = Checks.books("a\nb", "u\nv");
        below.keep(true);
        below.fast(0, 0);
        below.fast(1, 1);
        below.term(0, 0);
        Checks.due("one way, below 0", below.rest(0, 0), -15);
        Checks.due("none beside it", below.second(), Checks.NOT);
    }

    private static void secondAsDear() {
        Checks.says("Promise 18", "of all WAYS but THE BEST");
        SideBySide x = Checks.books("a.b.c", "u");
        Checks.due("the best", x.rest(0, 0), 450 + 246);
        Checks.due("as dear as the best", x.second(), 450 + 246);
        SideBySide lesser = Checks.books("aaaa.b", "u");
        Checks.dueText("two and one", Checks.kinds(lesser), "3");
        Checks.due("one and one, then one alone: of a lesser KIND", lesser.second(), 4 + 450);
        SideBySide y = Checks.books(sentences("a", 20), sentences("u", 20));
        Checks.due("differs in the last joints, or in others", y.second(), 440);
        for (int i = 0; i < 18; i++) {
            y.fast(i, i);
        }
        Checks.due("differs anywhere", y.second(), 440);
    }

    private static void sureBounds() {
        Checks.says("Promise 19", "UNKNOWN, OUTSIDE.");
        SideBySide x = mostJoints();
        Checks.bounds("sure(k, 0)", k -> x.sure(k, 0), 0, 37, Checks.UNKNOWN);
        Checks.bounds("sure(37, d)", d -> x.sure(37, d), 0, 10000, Checks.OUTSIDE);
        SideBySide empty = new SideBySide();
        Checks.due("sure(0, 0) of none", empty.sure(0, 0), Checks.UNKNOWN);
        SideBySide y = Checks.books("a", "u");
        Checks.bounds("sure(k, 10000) of one", k -> y.sure(k, 10000), 0, 0, Checks.UNKNOWN);
    }

    private static void sureAtMost() {
        Checks.says("Promise 19", "is in every WAY whose sum is at most d (0 .. 10000) above the least: 1, 0.");
        SideBySide x = Checks.books("a.b", "u.v");
        for (int k = 0; k < 2; k++) {
            Checks.due("440 more than 0: sure(" + k + ", 439)", x.sure(k, 439), 1);
            Checks.due("440 more than 0: sure(" + k + ", 440)", x.sure(k, 440), 0);
        }
        SideBySide y = Checks.books("a.b", "u");
        Checks.due("486 and 230: sure(0, 255)", y.sure(0, 255), 1);
        Checks.due("486 and 230: sure(0, 256)", y.sure(0, 256), 0);
        SideBySide z = Checks.books("a", "u");
        z.term(0, 0);
        Checks.due("900 and -15: sure(0, 914)", z.sure(0, 914), 1);
        Checks.due("900 and -15: sure(0, 915)", z.sure(0, 915), 0);
        SideBySide even = Checks.books("a.b.c", "u");
        Checks.due("another one is as dear: sure(0, 0)", even.sure(0, 0), 0);
    }

    private static void sureInEveryWay() {
        Checks.says("Promise 19", "Whether JOINT k of THE BEST (its KIND, at its SENTENCES) is in every WAY");
        SideBySide one = Checks.books(sentences("a", 20), "");
        Checks.due("the only way: sure(19, 10000)", one.sure(19, 10000), 1);
        SideBySide x = Checks.books("a\nb.c", "u\nv.w");
        x.keep(true);
        x.fast(0, 0);
        Checks.due("the only joint of its paragraphs", x.sure(0, 10000), 1);
        Checks.due("one of several", x.sure(1, 10000), 0);
        SideBySide y = Checks.books("a.b", "u.v");
        y.fast(0, 0);
        y.fast(1, 1);
        Checks.due("another KIND has its SENTENCES: sure(0, 440)", y.sure(0, 440), 0);
        Checks.due("another KIND has its SENTENCES: sure(0, 439)", y.sure(0, 439), 1);
        SideBySide w = Checks.books("a.b.c\nd", "u.v.w\nx");
        w.keep(true);
        Checks.due("ways differ ahead of it", w.sure(3, 899), 1);
        Checks.due("d and x alone", w.sure(3, 900), 0);
    }
}
