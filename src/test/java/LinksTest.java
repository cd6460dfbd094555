/** Promises 25 to 27. */
public final class LinksTest {
    public static void main(String[] args) {
        linkFromLeft();
        linkFromRight();
        linkRefusals();
        linkedBothAndGrown();
        grownNeedsAFreeWord();
        grownGoesOnAndOn();
        linkedRefusals();
        throughSentences();
        phrases();
        Checks.end();
    }

    private static void linkFromLeft() {
        SideBySide x = Checks.books("a b c", "u v u");
        Checks.due("even shares: none above no word", x.link(0, 0, 0), Checks.NONE);
        x.term(0, 0);
        x.term(1, 0);
        x.term(2, 0);
        Checks.due("the nearest u of 0", x.link(0, 0, 0), 0);
        Checks.due("as near: the least", x.link(0, 0, 1), 0);
        Checks.due("the nearest u of 2", x.link(0, 0, 2), 2);
        x.term(0, 0);
        x.term(0, 1);
        Checks.due("the greatest share", x.link(0, 0, 0), 1);
        SideBySide y = Checks.books("a. b", "u. v");
        y.term(0, 1);
        Checks.due("share 0 is not above no word's 0", y.link(0, 0, 0), Checks.NONE);
    }

    private static void linkFromRight() {
        SideBySide x = Checks.books("a b c", "u v w");
        for (int y = 0; y < 3; y++) {
            Checks.due("even shares: the nearest", x.link(0, 1, y), y);
        }
        x.term(0, 2);
        Checks.due("the greatest share", x.link(0, 1, 2), 0);
        Checks.due("not with a any more: the nearest of b, c", x.link(0, 1, 0), 1);
        x.term(1, 2);
        x.term(2, 2);
        Checks.due("share 0: none", x.link(0, 1, 0), Checks.NONE);
        Checks.due("of three the nearest", x.link(0, 1, 2), 2);
        SideBySide y = Checks.books("a b a", "u v w");
        y.term(1, 0);
        Checks.due("as near: the least", y.link(0, 1, 1), 0);
    }

    private static void linkRefusals() {
        SideBySide x = Checks.books("a b. c", "u. v");
        Checks.dueText("one and one, twice", Checks.kinds(x), "00");
        Checks.due("link(2, 0, 0)", x.link(2, 0, 0), Checks.UNKNOWN);
        Checks.due("link(-1, 7, 0)", x.link(-1, 7, 0), Checks.UNKNOWN);
        Checks.due("link(0, 0, 2)", x.link(0, 0, 2), Checks.UNKNOWN);
        Checks.due("link(0, 0, -1)", x.link(0, 0, -1), Checks.UNKNOWN);
        Checks.due("link(0, 1, 1)", x.link(0, 1, 1), Checks.UNKNOWN);
        Checks.due("link(0, 2, 0)", x.link(0, 2, 0), Checks.OUTSIDE);
        Checks.due("link(0, -1, 0)", x.link(0, -1, 0), Checks.OUTSIDE);
        Checks.due("no such way names no word: link(0, 2, -1)", x.link(0, 2, -1), Checks.OUTSIDE);
        Checks.due("no such way names no word: link(0, -1, 2)", x.link(0, -1, 2), Checks.OUTSIDE);
        Checks.due("the joint goes ahead of the way: link(2, 2, 0)", x.link(2, 2, 0), Checks.UNKNOWN);
        for (int n : Checks.WILD) {
            Checks.due("link(0, 2, " + n + ")", x.link(0, 2, n), Checks.OUTSIDE);
            Checks.due("link(0, " + n + ", " + n + ")", x.link(0, n, n), Checks.OUTSIDE);
            Checks.due("link(" + n + ", 0, 0)", x.link(n, 0, 0), Checks.UNKNOWN);
            Checks.due("link(0, " + n + ", 0)", x.link(0, n, 0), Checks.OUTSIDE);
            Checks.due("link(0, 0, " + n + ")", x.link(0, 0, n), Checks.UNKNOWN);
            Checks.due("link(0, 1, " + n + ")", x.link(0, 1, n), Checks.UNKNOWN);
        }
        SideBySide y = Checks.books("a b", "");
        Checks.due("left alone", y.link(0, 0, 1), Checks.NOT);
        Checks.due("left alone: no word 2", y.link(0, 0, 2), Checks.UNKNOWN);
        Checks.due("left alone: no right word", y.link(0, 1, 0), Checks.UNKNOWN);
        Checks.due("left alone: OUTSIDE goes ahead of NOT", y.link(0, 2, 0), Checks.OUTSIDE);
        Checks.due("left alone: no such way, no word 2", y.link(0, 2, 2), Checks.OUTSIDE);
        SideBySide z = Checks.books("", "u v");
        Checks.due("right alone", z.link(0, 1, 1), Checks.NOT);
        Checks.due("right alone: no left word", z.link(0, 0, 0), Checks.UNKNOWN);
    }

    private static void linkedBothAndGrown() {
        SideBySide x = Checks.books("a b c", "u v w");
        Checks.due("even shares: no BOTH", x.linked(0, 0, 0, 0), 0);
        Checks.due("even shares: nothing grows from nothing", x.linked(0, 1, 0, 0), 0);
        x.term(0, 0);
        Checks.due("BOTH", x.linked(0, 0, 0, 0), 1);
        Checks.due("BOTH are GROWN", x.linked(0, 1, 0, 0), 1);
        Checks.due("not BOTH", x.linked(0, 0, 1, 1), 0);
        Checks.due("GROWN: at a corner", x.linked(0, 1, 1, 1), 1);
        Checks.due("GROWN: from there on", x.linked(0, 1, 2, 2), 1);
        Checks.due("no link", x.linked(0, 1, 0, 1), 0);
        SideBySide y = Checks.books("a b c", "u v w");
        y.term(0, 2);
        Checks.due("BOTH far off", y.linked(0, 0, 0, 2), 1);
        Checks.due("FROM RIGHT, near: v to b", y.link(0, 1, 1), 1);
        Checks.due("GROWN: near by -1 and 1", y.linked(0, 1, 1, 1), 1);
        Checks.due("FROM RIGHT: u to b", y.link(0, 1, 0), 1);
        Checks.due("GROWN: u is free", y.linked(0, 1, 1, 0), 1);
    }

    private static void grownNeedsAFreeWord() {
        // a to u, b to v are BOTH; no link may join words that are both taken.
        SideBySide x = Checks.books("a b", "u v");
        x.term(0, 0);
        x.term(1, 1);
        Checks.due("0, 1 is no link", x.linked(0, 1, 0, 1), 0);
        // a, b both lead to u; u leads to a. b to u: u is taken, b is free.
        SideBySide y = Checks.books("a b", "u v");
        y.term(0, 0);
        y.term(1, 0);
        Checks.due("BOTH a, u", y.linked(0, 0, 0, 0), 1);
        Checks.due("not BOTH b, u", y.linked(0, 0, 1, 0), 0);
        Checks.due("GROWN b, u", y.linked(0, 1, 1, 0), 1);
        Checks.due("v leads nowhere", y.link(0, 1, 1), Checks.NONE);
        // Far off: c leads to u, too, but no GROWN one is beside it till b has grown.
        SideBySide z = Checks.books("a b c d", "u v w x");
        z.term(0, 0);
        z.term(2, 0);
        Checks.due("c to u is a link", z.link(0, 0, 2), 0);
        Checks.due("b, v grows from a, u", z.linked(0, 1, 1, 1), 1);
        Checks.due("c, u grows from b, v", z.linked(0, 1, 2, 0), 1);
    }

    private static void grownGoesOnAndOn() {
        // d, x are BOTH; w, v, u lead to c, b, a: each grows from the one behind it, so one time is not enough.
        SideBySide x = Checks.books("a b c d", "u v w x");
        x.term(3, 3);
        for (int n = 0; n < 3; n++) {
            Checks.due("not BOTH", x.linked(0, 0, n, n), 0);
            Checks.due("GROWN backwards", x.linked(0, 1, n, n), 1);
        }
    }

    private static void linkedRefusals() {
        SideBySide x = Checks.books("a b", "u");
        Checks.due("linked(1, 0, 0, 0)", x.linked(1, 0, 0, 0), Checks.UNKNOWN);
        Checks.due("linked(0, 0, 2, 0)", x.linked(0, 0, 2, 0), Checks.UNKNOWN);
        Checks.due("linked(0, 0, 0, 1)", x.linked(0, 0, 0, 1), Checks.UNKNOWN);
        Checks.due("linked(0, 0, -1, 0)", x.linked(0, 0, -1, 0), Checks.UNKNOWN);
        Checks.due("linked(0, 0, 0, -1)", x.linked(0, 0, 0, -1), Checks.UNKNOWN);
        Checks.due("linked(0, 2, 0, 0)", x.linked(0, 2, 0, 0), Checks.OUTSIDE);
        Checks.due("linked(0, -1, 0, 0)", x.linked(0, -1, 0, 0), Checks.OUTSIDE);
        Checks.due("linked(0, 2, 2, 0)", x.linked(0, 2, 2, 0), Checks.UNKNOWN);
        for (int n : Checks.WILD) {
            Checks.due("linked(" + n + ", 0, 0, 0)", x.linked(n, 0, 0, 0), Checks.UNKNOWN);
            Checks.due("linked(0, " + n + ", 0, 0)", x.linked(0, n, 0, 0), Checks.OUTSIDE);
            Checks.due("linked(0, 0, " + n + ", 0)", x.linked(0, 0, n, 0), Checks.UNKNOWN);
            Checks.due("linked(0, 0, 0, " + n + ")", x.linked(0, 0, 0, n), Checks.UNKNOWN);
        }
        SideBySide y = Checks.books("a", "");
        Checks.due("left alone has no right word", y.linked(0, 0, 0, 0), Checks.UNKNOWN);
    }

    private static void throughSentences() {
        SideBySide x = Checks.books("a b. c", "u v w");
        x.fast(0, 0);
        Checks.dueText("two and one", Checks.kinds(x), "3");
        x.term(2, 0);
        Checks.due("the word of the second sentence", x.link(0, 0, 2), 0);
        Checks.due("to the word of the second sentence", x.link(0, 1, 0), 2);
        Checks.due("no word 3", x.link(0, 0, 3), Checks.UNKNOWN);
        SideBySide y = Checks.books("a b c d e f g h i j. a b c d e f g h i j", "k l m n o p q r s t. k l m n o p q r s t");
        y.fast(0, 1);
        Checks.dueText("two and two", Checks.kinds(y), "5");
        for (int a = 0; a < 10; a++) {
            y.term(a, a);
        }
        for (int n = 0; n < 20; n++) {
            Checks.due("twenty words", y.link(0, 0, n), n);
            Checks.due("twenty words, back", y.link(0, 1, n), n);
            Checks.due("twenty words, both", y.linked(0, 0, n, n), 1);
        }
        Checks.due("no word 20", y.link(0, 0, 20), Checks.UNKNOWN);
        // Rows of 1, 2, 3, 4 words on the main line: 20 + 19 + 18 + 17.
        Checks.due("phrases of twenty words", y.phrases(0), 74);
    }

    private static void phrases() {
        SideBySide x = Checks.books("a b c", "u v w");
        Checks.due("nothing GROWN", x.phrases(0), 0);
        x.term(0, 0);
        Checks.due("the main line of three", x.phrases(0), 6);
        SideBySide y = Checks.books("a b c", "u v");
        y.term(0, 1);
        y.term(1, 0);
        y.term(2, 0);
        // GROWN: a, v; b, u and c, u. Rows: a with v; b c with u; all with all.
        Checks.due("crosswise", y.phrases(0), 3);
        SideBySide z = Checks.books("a b b b b", "u v v");
        z.term(0, 0);
        z.term(1, 0);
        // All lead to u, which leads to a: a, u; then b, u by and by at 1 alone; v leads nowhere.
        Checks.due("u with v as a free word", z.linked(0, 1, 2, 0), 1);
        Checks.due("five words to one do not fit into a row of four", z.phrases(0), 0);
        SideBySide w = Checks.books("a b", "u v w");
        w.term(0, 0);
        w.term(1, 0);
        // GROWN a, u and b, u: rows a b with u, u v, u v w.
        Checks.due("free words beside", w.phrases(0), 3);
        Checks.due("phrases(1)", w.phrases(1), Checks.UNKNOWN);
        Checks.due("phrases(-1)", w.phrases(-1), Checks.UNKNOWN);
        for (int n : Checks.WILD) {
            Checks.due("phrases(" + n + ")", w.phrases(n), Checks.UNKNOWN);
        }
        Checks.due("left alone", Checks.books("a", "").phrases(0), Checks.NOT);
        Checks.due("right alone", Checks.books("", "u").phrases(0), Checks.NOT);
    }
}
