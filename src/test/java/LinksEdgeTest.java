/** Section 4 and promises 25 to 27: for each sentence that names an edge a test of its own. */
public final class LinksEdgeTest {
    public static void main(String[] args) {
        numberedThroughSentences();
        fromLeftAboveNoWord();
        fromLeftNearest();
        fromRightAboveZero();
        fromRightNearest();
        bothWays();
        grownBeside();
        grownAboveAndBelow();
        grownAtCorners();
        notGrownTwoAway();
        notGrownWithoutAFreeWord();
        grownAgainAndAgain();
        grownFromNothing();
        grownAsSharesAreNow();
        grownWithinTheJoint();
        grownAtTheLastWords();
        rowsOfFour();
        rowsWithinTheJoint();
        rowsWithFreeWords();
        rowsThatLeadOutside();
        linkBounds();
        linkNot();
        linkedBounds();
        linkedWithoutBothSides();
        phrasesBounds();
        phrasesNot();
        Checks.end();
    }

    /** One joint of two and two, of 20 words on each side; so many of ten kinds go with one another as they stand. */
    private static SideBySide greatestJoint(int terms) {
        SideBySide x = Checks.books("a b c d e f g h i j. a b c d e f g h i j", "k l m n o p q r s t. k l m n o p q r s t");
        x.fast(0, 1);
        for (int a = 0; a < terms; a++) {
            x.term(a, a);
        }
        Checks.dueText("one joint", Checks.kinds(x), "5");
        return x;
    }

    /** What is GROWN of joint 0, as "x,y " for each, by x, then y. */
    private static String grown(SideBySide x, int lefts, int rights) {
        StringBuilder cells = new StringBuilder();
        for (int l = 0; l < lefts; l++) {
            for (int r = 0; r < rights; r++) {
                if (x.linked(0, 1, l, r) == 1) {
                    cells.append(l).append(',').append(r).append(' ');
                }
            }
        }
        return cells.toString().trim();
    }

    /** The left words a, b, c, .. of the first sentence go with the named right kinds; the last right one is beside none. */
    private static SideBySide tied(String left, String right, int... terms) {
        SideBySide x = Checks.books(left + ". zz", right + ". zz");
        for (int a = 0; a < terms.length; a++) {
            x.term(a, terms[a]);
        }
        Checks.dueText("one and one, twice", Checks.kinds(x), "00");
        return x;
    }

    /** b goes with v most of all, by the second sentences, but a little with u and w, which lead to it. */
    private static SideBySide oneToThree() {
        SideBySide x = Checks.books("a b c. b", "u v w. v v zz");
        x.rounds(1);
        x.term(0, 3);
        x.term(2, 3);
        return x;
    }

    // ---- section 4

    private static void numberedThroughSentences() {
        Checks.says("Section 4", "its LEFT WORDS and RIGHT WORDS are numbered through its SENTENCES.");
        SideBySide x = greatestJoint(10);
        for (int n = 0; n < 20; n++) {
            Checks.due("link(0, 0, " + n + ")", x.link(0, 0, n), n);
            Checks.due("link(0, 1, " + n + ")", x.link(0, 1, n), n);
        }
        x.change(1, 1, 0, 9);
        Checks.due("the first word of the second sentence: the nearest k is 0 then", x.link(0, 0, 10), 0);
        Checks.due("the last word of the first sentence: the nearest t of three", x.link(0, 0, 9), 9);
    }

    private static void fromLeftAboveNoWord() {
        Checks.says("Section 4", "none, if that SHARE is not above the one with NO WORD.");
        SideBySide x = Checks.books("a", "u");
        Checks.due("as great", x.link(0, 0, 0), Checks.NONE);
        SideBySide y = Checks.books("a", "u u");
        y.rounds(1);
        Checks.due("above", y.link(0, 0, 0), 0);
        SideBySide z = Checks.books("a. a", "u. v");
        z.rounds(1);
        Checks.due("below", z.link(0, 0, 0), Checks.NONE);
        SideBySide zero = tied("a", "u", 1);
        Checks.due("0 and 0", zero.link(0, 0, 0), Checks.NONE);
    }

    private static void fromLeftNearest() {
        Checks.says("Section 4", "FROM a LEFT WORD: to the RIGHT one of the greatest SHARE of both KINDS; of these the nearest "
            + "by number (the least size of the difference), of these the least");
        SideBySide x = tied("a b c d e", "u v u v u", 0, 0, 0, 0, 0);
        int[] want = {0, 0, 2, 2, 4};
        for (int n = 0; n < 5; n++) {
            Checks.due("link(0, 0, " + n + ")", x.link(0, 0, n), want[n]);
        }
        SideBySide y = tied("a b c d e", "u v v v v", 0, 0, 0, 0, 0);
        Checks.due("the only one, as far as can be", y.link(0, 0, 4), 0);
        SideBySide z = tied("a b c d e", "v v v v u", 1, 1, 1, 1, 1);
        Checks.due("the only one, as far as can be", z.link(0, 0, 0), 4);
        SideBySide greatest = Checks.books("a", "u v v");
        greatest.rounds(1);
        Checks.due("the greatest goes ahead of the nearest", greatest.link(0, 0, 0), 1);
    }

    private static void fromRightAboveZero() {
        Checks.says("Section 4", "FROM a RIGHT WORD: to the LEFT one of the greatest SHARE, likewise by nearness; none, if "
            + "that is 0.");
        SideBySide x = tied("a b", "u v", 0, 0);
        Checks.due("0", x.link(0, 1, 1), Checks.NONE);
        Checks.due("UNIT", x.link(0, 1, 0), 0);
        SideBySide y = Checks.books("a", "u");
        Checks.due("no more than with no word, but above 0", y.link(0, 1, 0), 0);
        SideBySide least = Checks.books("a", "u u v");
        least.rounds(10);
        least.rounds(9);
        Checks.due("the least share above 0", least.share(0, 1), 1);
        Checks.due("leads there", least.link(0, 1, 2), 0);
        least.rounds(1);
        Checks.due("0 then", least.share(0, 1), 0);
        Checks.due("leads nowhere", least.link(0, 1, 2), Checks.NONE);
    }

    private static void fromRightNearest() {
        Checks.says("Section 4", "likewise by nearness");
        SideBySide x = tied("a b c b c", "u v w x u", 4, 4, 0);
        Checks.due("the only ones are 2 and 4, seen from 0", x.link(0, 1, 0), 2);
        Checks.due("the only ones are 2 and 4, seen from 4", x.link(0, 1, 4), 4);
        SideBySide y = tied("a b a", "u v w", 0, 2);
        y.change(1, 0, 1, 0);
        Checks.due("0 and 2, seen from 1: the least", y.link(0, 1, 1), 0);
        Checks.due("1 alone, seen from 2", y.link(0, 1, 2), 1);
    }

    private static void bothWays() {
        Checks.says("Section 4", "BOTH: x to y, y to x.");
        SideBySide x = tied("a b", "u v", 0, 0);
        Checks.due("a to u, u to a", x.linked(0, 0, 0, 0), 1);
        Checks.due("b to u only", x.linked(0, 0, 1, 0), 0);
        SideBySide y = Checks.books("a", "u");
        Checks.due("u to a only", y.linked(0, 0, 0, 0), 0);
        SideBySide none = tied("a", "u", 1);
        Checks.due("neither", none.linked(0, 0, 0, 0), 0);
    }

    private static void grownBeside() {
        Checks.says("Section 4", "if some GROWN u, v (as they are then) has x - u and y - v each -1, 0 or 1");
        // b and v are BOTH; a, or c, leads to v, too.
        SideBySide ahead = tied("a b c", "u v w", 1, 1, 3);
        Checks.dueText("-1 and 0", grown(ahead, 3, 3), "0,1 1,1");
        SideBySide behind = tied("a b c", "u v w", 3, 1, 1);
        Checks.dueText("1 and 0", grown(behind, 3, 3), "1,1 2,1");
    }

    private static void grownAboveAndBelow() {
        Checks.says("Section 4", "has x - u and y - v each -1, 0 or 1, and x or y is in no GROWN one");
        SideBySide x = oneToThree();
        Checks.dueText("one and one, twice", Checks.kinds(x), "00");
        Checks.due("b to v", x.link(0, 0, 1), 1);
        Checks.due("u to b", x.link(0, 1, 0), 1);
        Checks.due("w to b", x.link(0, 1, 2), 1);
        Checks.dueText("0 and -1, 0 and 1", grown(x, 3, 3), "1,0 1,1 1,2");
    }

    private static void grownAtCorners() {
        Checks.says("Section 4", "x, y that is one of the LINKS FROM a LEFT, or FROM a RIGHT WORD, but not GROWN, is GROWN "
            + "from then on");
        SideBySide up = tied("a b c", "u v w", 2, 1, 2);
        Checks.dueText("-1 and 1: a to w", grown(up, 3, 3), "0,2 1,1 2,2");
        SideBySide down = tied("a b c", "u v w", 0, 1, 0);
        Checks.dueText("1 and -1: c to u", grown(down, 3, 3), "0,0 1,1 2,0");
        // Shares are equal but for a, then but for c: u, v, w lead to the words that they stand beside.
        SideBySide on = Checks.books("a b c", "u v w");
        on.term(0, 0);
        Checks.dueText("1 and 1: v to b, w to c", grown(on, 3, 3), "0,0 1,1 2,2");
        SideBySide back = Checks.books("a b c", "u v w");
        back.term(2, 2);
        Checks.dueText("-1 and -1: v to b, u to a", grown(back, 3, 3), "0,0 1,1 2,2");
    }

    private static void notGrownTwoAway() {
        Checks.says("Section 4", "has x - u and y - v each -1, 0 or 1");
        SideBySide left = tied("a b c", "u v w", 0, 3, 0);
        Checks.due("c to u is a link", left.link(0, 0, 2), 0);
        Checks.dueText("2 and 0", grown(left, 3, 3), "0,0");
        SideBySide leftTurned = tied("a b c", "w v u", 2, 3, 2);
        Checks.due("a to u is a link", leftTurned.link(0, 0, 0), 2);
        Checks.dueText("-2 and 0", grown(leftTurned, 3, 3), "2,2");
        SideBySide right = Checks.books("a b c. a. d", "u v w. u u. y zz");
        right.rounds(1);
        right.change(1, 0, 1, 3);
        right.term(1, 4);
        right.term(2, 4);
        Checks.dueText("one and one, three times", Checks.kinds(right), "000");
        Checks.due("w to a is a link", right.link(0, 1, 2), 0);
        Checks.due("y to none", right.link(0, 1, 1), Checks.NONE);
        Checks.dueText("0 and 2", grown(right, 3, 3), "0,0");
    }

    private static void notGrownWithoutAFreeWord() {
        Checks.says("Section 4", "and x or y is in no GROWN one");
        // a to the first u is BOTH; v to b grows; b to the first u is a link, but b and u are both taken then.
        SideBySide x = Checks.books("a b", "v u u");
        x.rounds(1);
        x.term(0, 1);
        Checks.due("b to u", x.link(0, 0, 1), 1);
        Checks.due("u to a", x.link(0, 1, 1), 0);
        Checks.dueText("without 1,1", grown(x, 2, 3), "0,1 0,2 1,0");
    }

    private static void grownAgainAndAgain() {
        Checks.says("Section 4", "then, again and again, through all x, y, by x, then y");
        String left = "a b c d e f g h i j";
        SideBySide x = Checks.books(left, left.replace("a", "k"));
        x.term(9, 9);
        StringBuilder line = new StringBuilder();
        for (int n = 0; n < 10; n++) {
            line.append(n).append(',').append(n).append(' ');
        }
        Checks.dueText("nine times, from the last one to the first", grown(x, 10, 10), line.toString().trim());
    }

    private static void grownFromNothing() {
        Checks.says("Section 4", "GROWN: BOTH at first");
        SideBySide x = Checks.books("a b", "u v");
        Checks.due("u to a is a link", x.link(0, 1, 0), 0);
        Checks.dueText("but nothing is BOTH", grown(x, 2, 2), "");
        SideBySide y = tied("a b c d", "u v w x", 0, 4, 4, 3);
        Checks.dueText("BOTH alone", grown(y, 4, 4), "0,0 3,3");
    }

    private static void grownAsSharesAreNow() {
        Checks.says("Section 4", "LINKS of a JOINT of THE BEST that has both sides");
        SideBySide x = tied("a b", "u v", 0, 2);
        Checks.dueText("a with u", grown(x, 2, 2), "0,0");
        x.term(0, 0);
        x.term(0, 1);
        Checks.dueText("a with v", grown(x, 2, 2), "0,1");
        Checks.due("rows: a, a b with v, u v", x.phrases(0), 4);
        x.term(0, 1);
        x.term(0, 2);
        Checks.dueText("a with none", grown(x, 2, 2), "");
        Checks.due("no rows", x.phrases(0), 0);
    }

    private static void grownWithinTheJoint() {
        Checks.says("Section 4", "if some GROWN u, v (as they are then)");
        SideBySide x = Checks.books("a b c. d e", "u v w. x y");
        x.term(2, 2);
        Checks.dueText("one and one, twice", Checks.kinds(x), "00");
        Checks.due("a joint of three words", x.linked(0, 1, 2, 2), 1);
        Checks.due("y to e is a link", x.link(1, 1, 1), 1);
        Checks.due("a joint of two words has no third one beside", x.linked(1, 1, 1, 1), 0);
    }

    private static void grownAtTheLastWords() {
        Checks.says("Section 4", "until one time adds none.");
        SideBySide x = greatestJoint(9);
        Checks.due("t to j, not j to t", x.linked(0, 0, 19, 19), 0);
        Checks.due("word 19 and word 19", x.linked(0, 1, 19, 19), 1);
        Checks.due("word 9 and word 9", x.linked(0, 1, 9, 9), 1);
    }

    private static void rowsOfFour() {
        Checks.says("Section 4", "ROWS x .. x + m, y .. y + n (m, n 0 .. 3) go together");
        Checks.due("one and one", tied("a", "u", 0).phrases(0), 1);
        Checks.due("four left words to one", tied("a b b b", "u", 0, 0).phrases(0), 1);
        Checks.due("five left words to one", tied("a b b b b", "u", 0, 0).phrases(0), 0);
        Checks.due("one to four right words", tied("a", "u u u u", 0).phrases(0), 1);
        Checks.due("one to five right words", tied("a", "u u u u u", 0).phrases(0), 0);
        Checks.due("20 words: rows of 1, 2, 3, 4 of each", greatestJoint(10).phrases(0), 20 + 19 + 18 + 17);
    }

    private static void rowsWithinTheJoint() {
        Checks.says("Section 4", "ROWS x .. x + m, y .. y + n");
        Checks.due("two words: 1 and 1, 2 and 2, both", tied("a b", "u v", 0, 1).phrases(0), 3);
        Checks.due("three words", tied("a b c", "u v w", 0, 1, 2).phrases(0), 6);
        Checks.due("the last word alone is GROWN", tied("a b c", "u v w", 3, 3, 2).phrases(0), 3 * 3);
    }

    private static void rowsWithFreeWords() {
        Checks.says("Section 4", "if there is a GROWN one in both");
        Checks.due("nothing is GROWN", tied("a", "u", 1).phrases(0), 0);
        Checks.due("four free left words behind", tied("a b b b b", "u", 0, 1).phrases(0), 4);
        Checks.due("four free right words behind", tied("a", "u v v v v", 0).phrases(0), 4);
        Checks.due("four of each", tied("a b b b b", "u v v v v", 0, 2).phrases(0), 16);
        Checks.due("free words ahead", tied("a b", "v u", 2, 1).phrases(0), 4);
    }

    private static void rowsThatLeadOutside() {
        Checks.says("Section 4", "and none from one of both to outside of the other.");
        // a with v, b and c with u: a and v; b c and u; all of both.
        Checks.due("crosswise", tied("a b c", "u v", 1, 0, 0).phrases(0), 3);
        Checks.due("one to three: b, a b, b c, a b c with u v w", oneToThree().phrases(0), 4);
    }

    // ---- promises 25 to 27

    private static void linkBounds() {
        Checks.says("Promise 25", "UNKNOWN (JOINT, WORD), OUTSIDE (way)");
        SideBySide x = greatestJoint(10);
        Checks.bounds("link(0, 0, x)", n -> x.link(0, 0, n), 0, 19, Checks.UNKNOWN);
        Checks.bounds("link(0, 1, x)", n -> x.link(0, 1, n), 0, 19, Checks.UNKNOWN);
        Checks.bounds("link(0, way, 19)", way -> x.link(0, way, 19), 0, 1, Checks.OUTSIDE);
        for (int way : new int[] {-1, 2, Integer.MIN_VALUE, Integer.MAX_VALUE}) {
            Checks.due("link(0, " + way + ", 20): no way, so no word", x.link(0, way, 20), Checks.OUTSIDE);
        }
        Checks.bounds("link(k, 0, 0)", k -> x.link(k, 0, 0), 0, 0, Checks.UNKNOWN);
        SideBySide y = Checks.books("a b. c", "u. v w");
        Checks.bounds("link(k, 0, 0) of two", k -> y.link(k, 0, 0), 0, 1, Checks.UNKNOWN);
        Checks.bounds("link(0, 0, x) of two and one", n -> y.link(0, 0, n), 0, 1, Checks.UNKNOWN);
        Checks.bounds("link(0, 1, x) of two and one", n -> y.link(0, 1, n), 0, 0, Checks.UNKNOWN);
        Checks.bounds("link(1, 0, x) of one and two", n -> y.link(1, 0, n), 0, 0, Checks.UNKNOWN);
        Checks.bounds("link(1, 1, x) of one and two", n -> y.link(1, 1, n), 0, 1, Checks.UNKNOWN);
        SideBySide empty = new SideBySide();
        Checks.due("link(0, 0, 0) of no joint", empty.link(0, 0, 0), Checks.UNKNOWN);
    }

    private static void linkNot() {
        Checks.says("Promise 25", "NOT (a JOINT without both sides, KIND 6).");
        SideBySide left = Checks.books("a b. c", "");
        Checks.due("KIND 1, its first word", left.link(0, 0, 0), Checks.NOT);
        Checks.due("KIND 1, its last word", left.link(0, 0, 1), Checks.NOT);
        Checks.due("the last JOINT", left.link(1, 0, 0), Checks.NOT);
        SideBySide right = Checks.books("", "u v. w");
        Checks.due("KIND 2, its first word", right.link(0, 1, 0), Checks.NOT);
        Checks.due("KIND 2, its last word", right.link(0, 1, 1), Checks.NOT);
        SideBySide mixed = Checks.books("a. b. c", "u");
        Checks.dueText("one alone, two and one", Checks.kinds(mixed), "13");
        Checks.due("the first JOINT", mixed.link(0, 0, 0), Checks.NOT);
        Checks.due("the second JOINT", mixed.link(1, 0, 0), Checks.NONE);
        Checks.due("the second JOINT, its last word", mixed.link(1, 0, 1), Checks.NONE);
    }

    private static void linkedBounds() {
        Checks.says("Promise 26", "UNKNOWN, OUTSIDE, NOT, as link().");
        SideBySide x = greatestJoint(10);
        Checks.bounds("linked(0, 0, x, 19)", n -> x.linked(0, 0, n, 19), 0, 19, Checks.UNKNOWN);
        Checks.bounds("linked(0, 1, 19, y)", n -> x.linked(0, 1, 19, n), 0, 19, Checks.UNKNOWN);
        Checks.bounds("linked(0, what, 19, 19)", what -> x.linked(0, what, 19, 19), 0, 1, Checks.OUTSIDE);
        Checks.bounds("linked(k, 0, 0, 0)", k -> x.linked(k, 0, 0, 0), 0, 0, Checks.UNKNOWN);
        Checks.due("the last ones are BOTH", x.linked(0, 0, 19, 19), 1);
        Checks.due("the last ones are GROWN", x.linked(0, 1, 19, 19), 1);
        Checks.due("the first and the last are not", x.linked(0, 1, 0, 19), 0);
        SideBySide y = Checks.books("a b. c", "u. v w");
        Checks.bounds("linked(k, 0, 0, 0) of two", k -> y.linked(k, 0, 0, 0), 0, 1, Checks.UNKNOWN);
        Checks.bounds("linked(0, 0, x, 0) of two and one", n -> y.linked(0, 0, n, 0), 0, 1, Checks.UNKNOWN);
        Checks.bounds("linked(0, 0, 0, y) of two and one", n -> y.linked(0, 0, 0, n), 0, 0, Checks.UNKNOWN);
        SideBySide empty = new SideBySide();
        Checks.due("linked(0, 0, 0, 0) of no joint", empty.linked(0, 0, 0, 0), Checks.UNKNOWN);
    }

    private static void linkedWithoutBothSides() {
        Checks.says("Promise 26", "UNKNOWN, OUTSIDE, NOT, as link().");
        // A side without SENTENCES has no WORD that could be named, and UNKNOWN goes ahead of NOT.
        for (int what = 0; what < 2; what++) {
            Checks.due("KIND 1", Checks.books("a", "").linked(0, what, 0, 0), Checks.UNKNOWN);
            Checks.due("KIND 2", Checks.books("", "u").linked(0, what, 0, 0), Checks.UNKNOWN);
        }
    }

    private static void phrasesBounds() {
        Checks.says("Promise 27", "How many pairs of ROWS of JOINT k go together. UNKNOWN");
        SideBySide x = Checks.books("a b. c", "u. v w");
        Checks.bounds("phrases() of two joints", x::phrases, 0, 1, Checks.UNKNOWN);
        SideBySide y = greatestJoint(10);
        Checks.bounds("phrases() of one joint", y::phrases, 0, 0, Checks.UNKNOWN);
        SideBySide empty = new SideBySide();
        Checks.due("phrases(0) of no joint", empty.phrases(0), Checks.UNKNOWN);
    }

    private static void phrasesNot() {
        Checks.says("Promise 27", "UNKNOWN, NOT, as link().");
        Checks.due("KIND 1", Checks.books("a", "").phrases(0), Checks.NOT);
        Checks.due("KIND 2", Checks.books("", "u").phrases(0), Checks.NOT);
        SideBySide mixed = Checks.books("a. b. c", "u");
        Checks.due("one alone", mixed.phrases(0), Checks.NOT);
        Checks.due("two and one", mixed.phrases(1), 0);
    }
}
