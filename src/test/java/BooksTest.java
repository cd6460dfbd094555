/** Promises 1 to 10. */
public final class BooksTest {
    public static void main(String[] args) {
        newObject();
        feed();
        cut();
        abbreviate();
        cuttingWords();
        cuttingSentences();
        takeFull();
        takeForgets();
        count();
        sentenceAndWord();
        letter();
        change();
        Checks.end();
    }

    private static void newObject() {
        SideBySide x = new SideBySide();
        Checks.due("new: code()", x.code(), 0);
        Checks.due("new: keep(false)", x.keep(false), 0);
        Checks.due("new: cut(1)", x.cut(1), Checks.OUTSIDE);
        for (int b = 0; b < 2; b++) {
            for (int what = 0; what < 5; what++) {
                Checks.due("new: count(" + b + ", " + what + ")", x.count(b, what), 0);
            }
        }
        for (int s = 0; s < 8; s++) {
            Checks.due("new: sort(" + s + ")", x.sort(s), 0);
        }
        Checks.due("new: loosen(0)", x.loosen(0), Checks.UNKNOWN);
        Checks.due("new: share(0, -1)", x.share(0, -1), Checks.UNKNOWN);
        Checks.due("new: lay()", x.lay(), 0);
        Checks.due("first short form", Checks.shortForm(x, "mr"), 1);
        SideBySide y = Checks.books("mr. x", "y");
        Checks.due("no short forms in another object", y.count(0, 0), 2);
        Checks.due("first pair", y.fast(0, 0), 1);
        Checks.due("no term", y.partner(0, 2), Checks.NONE);
    }

    private static void feed() {
        SideBySide x = new SideBySide();
        Checks.due("feed: highest byte first", x.feed(0x61624364, 0x20207A39, 0x20FF2000, 0x80202020, 0x20202062), 20);
        Checks.due("feed: take", x.take(0), 1);
        Checks.dueText("feed: words", Checks.shown(x, 0), "abcd z9 b");
        for (int n = 1; n <= 80; n++) {
            Checks.due("feed " + n, x.feed(0x20202020, 0, -1, 0x20202020, 0x2E2E2E2E), 20 * n);
        }
        Checks.due("feed 81", x.feed(0, 0, 0, 0, 0), Checks.FULL);
        Checks.due("feed: tape is as it was", x.cut(1600), 0);
        Checks.due("feed: cut to 1581", x.cut(1581), 19);
        Checks.due("feed: 19 bytes free", x.feed(0, 0, 0, 0, 0), Checks.FULL);
        Checks.due("feed: cut to 1580", x.cut(1580), 1);
        Checks.due("feed: 20 bytes free", x.feed(0, 0, 0, 0, 0), 1600);
    }

    private static void cut() {
        SideBySide x = new SideBySide();
        Checks.due("cut: nothing", x.cut(0), 0);
        Checks.type(x, "ab cd");
        Checks.due("cut(6)", x.cut(6), Checks.OUTSIDE);
        Checks.due("cut(-1)", x.cut(-1), Checks.OUTSIDE);
        for (int n : Checks.WILD) {
            Checks.due("cut(" + n + ")", x.cut(n), Checks.OUTSIDE);
        }
        Checks.due("cut(5)", x.cut(5), 0);
        Checks.due("cut(4)", x.cut(4), 1);
        x.take(0);
        Checks.dueText("cut: first bytes stay", Checks.shown(x, 0), "ab c");
        Checks.due("cut: tape was taken", x.cut(1), Checks.OUTSIDE);
        Checks.type(x, "a 1.5");
        x.cut(4);
        x.take(0);
        Checks.dueText("cut: what went does not count", Checks.shown(x, 0), "a 1");
        Checks.type(x, "b cd");
        x.cut(3);
        x.take(0);
        Checks.dueText("cut: what went is no part of a word", Checks.shown(x, 0), "b c");
    }

    private static void abbreviate() {
        SideBySide x = new SideBySide();
        Checks.due("abbreviate: empty", x.abbreviate(), Checks.NOT);
        Checks.due("abbreviate: no word", Checks.shortForm(x, " ..\n! "), Checks.NOT);
        Checks.due("abbreviate: tape stays", x.cut(0), 6);
        Checks.due("abbreviate: two", Checks.shortForm(x, "a b"), Checks.NOT);
        Checks.due("abbreviate: two, tape stays", x.cut(0), 3);
        Checks.due("abbreviate: a point parts letters", Checks.shortForm(x, "e.g"), Checks.NOT);
        x.cut(0);
        Checks.due("abbreviate: a point parts digits from blanks", Checks.shortForm(x, "1. 5"), Checks.NOT);
        x.cut(0);
        Checks.due("abbreviate: parting bytes around", Checks.shortForm(x, "\n. Mr.!"), 1);
        Checks.due("abbreviate: tape is empty", x.cut(0), 0);
        Checks.due("abbreviate: told again", Checks.shortForm(x, "mR"), 1);
        Checks.due("abbreviate: told again, tape is empty", x.cut(1), Checks.OUTSIDE);
        Checks.due("abbreviate: 1.5", Checks.shortForm(x, "1.5"), 2);
        Checks.due("abbreviate: ten letters", Checks.shortForm(x, "abcdefghij"), 3);
        Checks.due("abbreviate: the first ten count", Checks.shortForm(x, "ABCDEFGHIJklm"), 3);
        Checks.due("abbreviate: p", Checks.shortForm(x, "p"), 4);
        Checks.due("abbreviate: pp", Checks.shortForm(x, "pp"), 5);
        Checks.due("abbreviate: vol", Checks.shortForm(x, "vol"), 6);
        Checks.due("abbreviate: FULL", Checks.shortForm(x, "etc"), Checks.FULL);
        Checks.due("abbreviate: FULL, tape stays", x.cut(0), 3);
        Checks.due("abbreviate: NOT goes ahead of FULL", Checks.shortForm(x, "etc etc"), Checks.NOT);
        x.cut(0);
        Checks.due("abbreviate: one of the six again", Checks.shortForm(x, "vol"), 6);
        Checks.due("short forms: take", Checks.book(x, 0, "Mr.x. p.5 pp. 1.5. abcdefghijzz. b etc.d"), 3);
        Checks.dueText("short forms", Checks.shown(x, 0), "mr x|p 5 pp 1.5 abcdefghij b etc|d");
        Checks.book(x, 0, "Mr.. a Mr . b Mr! c Mr? d Mr\ne xmr. f");
        Checks.dueText("only a point right behind it", Checks.shown(x, 0), "mr|a mr|b mr|c mr|d mr/e xmr|f");
    }

    private static void cuttingWords() {
        SideBySide x = new SideBySide();
        Checks.book(x, 0, "aB,Cd-9x 12345678901 'abcdefghijk' [z]{`}@/: \u00e4a\u00ffb\u0000c");
        Checks.dueText("words", Checks.shown(x, 0), "ab cd 9x 1234567890 abcdefghij z a b c");
        Checks.book(x, 0, "3.5 1.2.3 a1.2b 4..5 6.x x.7 .8 9.");
        Checks.dueText("points", Checks.shown(x, 0), "3.5 1.2.3 a1.2b 4|5 6|x x|7|8 9");
        Checks.book(x, 0, "123456789.5 12345678.55 1234567890.5.6 q");
        Checks.dueText("points within ten letters", Checks.shown(x, 0), "123456789. 12345678.5 1234567890 q");
        Checks.due("points: kinds", x.count(0, 2), 4);
        Checks.book(x, 0, "1.");
        Checks.dueText("a point at the end of the tape", Checks.shown(x, 0), "1");
        Checks.book(x, 0, "1.5\n.5");
        Checks.dueText("a point behind a line's end", Checks.shown(x, 0), "1.5/5");
    }

    private static void cuttingSentences() {
        SideBySide x = new SideBySide();
        Checks.due("sentences", Checks.book(x, 0, "a!b?c.d\ne\n\n f.\n.\n!?g"), 7);
        Checks.dueText("sentences", Checks.shown(x, 0), "a|b|c|d/e/f/g");
        Checks.due("paragraphs", x.count(0, 1), 4);
        Checks.due("no sentences", Checks.book(x, 0, "\n.\n?! ,\n"), 0);
        Checks.due("no paragraphs", x.count(0, 1), 0);
        Checks.due("an empty tape", x.take(0), 0);
        Checks.due("a carriage return only parts words", Checks.book(x, 0, "a\rb;c:d"), 1);
    }

    private static String repeated(String part, int n) {
        return part.repeat(n);
    }

    private static void takeFull() {
        SideBySide x = new SideBySide();
        Checks.due("take(-1)", x.take(-1), Checks.UNKNOWN);
        Checks.due("take(2)", x.take(2), Checks.UNKNOWN);
        for (int b : Checks.WILD) {
            Checks.due("take(" + b + ")", x.take(b), Checks.UNKNOWN);
        }
        Checks.due("20 sentences", Checks.book(x, 1, repeated("a.", 20)), 20);
        Checks.due("21 sentences", Checks.book(x, 1, repeated("b!", 21)), Checks.FULL);
        Checks.due("UNKNOWN goes ahead of FULL", x.take(2), Checks.UNKNOWN);
        Checks.due("the book stays", x.count(1, 0), 20);
        Checks.dueText("its words stay", Checks.spelling(x, 1, 0), "a");
        Checks.due("the tape stays", x.cut(0), 42);
        Checks.due("20 sentences and ends", Checks.book(x, 1, repeated("b.", 20) + "...\n!"), 20);
        Checks.due("20 paragraphs", Checks.book(x, 1, repeated("c\n", 20)), 20);
        Checks.due("20 paragraphs", x.count(1, 1), 20);
        Checks.due("10 words", Checks.book(x, 1, repeated("a ", 10)), 1);
        Checks.due("11 words", Checks.book(x, 1, repeated("a ", 11)), Checks.FULL);
        x.cut(0);
        Checks.due("11 words at the end", Checks.book(x, 1, repeated("a ", 10) + "a"), Checks.FULL);
        x.cut(0);
        Checks.due("11 words behind others", Checks.book(x, 1, "b. " + repeated("a ", 11) + ". c"), Checks.FULL);
        x.cut(0);
        Checks.due("40 kinds", Checks.book(x, 1, Checks.unlikeWords(40, 10)), 4);
        Checks.due("41 kinds", Checks.book(x, 1, Checks.unlikeWords(41, 10)), Checks.FULL);
        Checks.due("the kinds stay", x.count(1, 2), 40);
        x.cut(0);
        Checks.due("40 kinds again and again", Checks.book(x, 1, Checks.unlikeWords(40, 10) + Checks.unlikeWords(40, 10)), 8);
        Checks.due("a fitting book behind a full one", Checks.book(x, 0, "d e"), 1);
        Checks.dueText("a fitting book behind a full one", Checks.shown(x, 0), "d e");
        Checks.due("all of 1600 bytes", Checks.book(x, 0, repeated(" ", 1598) + "x."), 1);
    }

    private static void takeForgets() {
        for (int b = 0; b < 2; b++) {
            SideBySide x = Checks.books("a b. c", "u v. w");
            x.fast(0, 1);
            x.term(0, 2);
            x.term(1, 0);
            x.keep(true);
            Checks.book(x, b, "p q r. s");
            Checks.due("no pair", x.fast(0, 0), 1);
            Checks.due("no pair 0", x.loosen(1), 0);
            Checks.due("no term", x.partner(0, 2), Checks.NONE);
            int even = Checks.UNIT / (x.count(1, 2) + 1);
            for (int a = 0; a < x.count(0, 2); a++) {
                for (int k = -1; k < x.count(1, 2); k++) {
                    Checks.due("share(" + a + ", " + k + ") is even", x.share(a, k), even);
                }
            }
            Checks.due("paragraphs are kept as before", x.keep(true), 1);
        }
        SideBySide x = Checks.books("a b. c", "u v. w");
        x.fast(0, 1);
        x.term(0, 2);
        Checks.due("FULL", Checks.book(x, 0, repeated("a ", 11)), Checks.FULL);
        Checks.due("FULL: pair stays", x.loosen(0), 1);
        Checks.due("FULL: term stays", x.partner(0, 2), 2);
        Checks.due("FULL: share stays", x.share(0, 2), Checks.UNIT);
    }

    private static void count() {
        SideBySide x = Checks.books("ab ab c. 1.5\nd", "");
        int[] want = {3, 2, 4, 5, 9};
        for (int what = 0; what < 5; what++) {
            Checks.due("count(0, " + what + ")", x.count(0, what), want[what]);
            Checks.due("count(1, " + what + ")", x.count(1, what), 0);
        }
        for (int n : Checks.WILD) {
            Checks.due("count(" + n + ", 0)", x.count(n, 0), Checks.UNKNOWN);
            Checks.due("count(0, " + n + ")", x.count(0, n), Checks.OUTSIDE);
        }
        Checks.due("count(0, 5)", x.count(0, 5), Checks.OUTSIDE);
        Checks.due("count(0, -1)", x.count(0, -1), Checks.OUTSIDE);
        Checks.due("count(2, 5)", x.count(2, 5), Checks.UNKNOWN);
    }

    private static void sentenceAndWord() {
        SideBySide x = Checks.books("ab c ab\nabcdefghijkl.d", "");
        int[][] want = {{3, 5, 0}, {1, 10, 1}, {1, 1, 1}};
        for (int s = 0; s < 3; s++) {
            for (int what = 0; what < 3; what++) {
                Checks.due("sentence(0, " + s + ", " + what + ")", x.sentence(0, s, what), want[s][what]);
            }
        }
        Checks.due("sentence(0, 0, 3)", x.sentence(0, 0, 3), Checks.OUTSIDE);
        Checks.due("sentence(0, 0, -1)", x.sentence(0, 0, -1), Checks.OUTSIDE);
        Checks.due("sentence(0, 3, 3)", x.sentence(0, 3, 3), Checks.UNKNOWN);
        Checks.due("sentence(1, 0, 0)", x.sentence(1, 0, 0), Checks.UNKNOWN);
        Checks.due("word 0", x.word(0, 0, 0), 0);
        Checks.due("word 1", x.word(0, 0, 1), 1);
        Checks.due("word 2", x.word(0, 0, 2), 0);
        Checks.due("word 3", x.word(0, 0, 3), Checks.UNKNOWN);
        Checks.due("word(0, 1, 0)", x.word(0, 1, 0), 2);
        Checks.due("word(0, 2, 0)", x.word(0, 2, 0), 3);
        Checks.due("word(1, 0, 0)", x.word(1, 0, 0), Checks.UNKNOWN);
        for (int n : Checks.WILD) {
            Checks.due("sentence(" + n + ", 0, 0)", x.sentence(n, 0, 0), Checks.UNKNOWN);
            Checks.due("sentence(0, " + n + ", 0)", x.sentence(0, n, 0), Checks.UNKNOWN);
            Checks.due("sentence(0, 0, " + n + ")", x.sentence(0, 0, n), Checks.OUTSIDE);
            Checks.due("word(" + n + ", 0, 0)", x.word(n, 0, 0), Checks.UNKNOWN);
            Checks.due("word(0, " + n + ", 0)", x.word(0, n, 0), Checks.UNKNOWN);
            Checks.due("word(0, 0, " + n + ")", x.word(0, 0, n), Checks.UNKNOWN);
        }
    }

    private static void letter() {
        SideBySide x = Checks.books("Zz 0.9 abcdefghijk", "");
        Checks.due("letter: a capital is small", x.letter(0, 0, 0), 'z');
        Checks.due("letter: no third", x.letter(0, 0, 2), Checks.NONE);
        Checks.due("letter: digit", x.letter(0, 1, 0), '0');
        Checks.due("letter: point", x.letter(0, 1, 1), '.');
        Checks.due("letter: digit 2", x.letter(0, 1, 2), '9');
        Checks.due("letter: tenth", x.letter(0, 2, 9), 'j');
        Checks.due("letter: eleventh", x.letter(0, 2, 10), Checks.NONE);
        Checks.due("letter: -1", x.letter(0, 2, -1), Checks.NONE);
        Checks.due("letter: kind 3", x.letter(0, 3, 0), Checks.UNKNOWN);
        Checks.due("letter: kind -1", x.letter(0, -1, 99), Checks.UNKNOWN);
        Checks.due("letter: book 1", x.letter(1, 0, 0), Checks.UNKNOWN);
        for (int n : Checks.WILD) {
            Checks.due("letter(" + n + ", 0, 0)", x.letter(n, 0, 0), Checks.UNKNOWN);
            Checks.due("letter(0, " + n + ", 0)", x.letter(0, n, 0), Checks.UNKNOWN);
            Checks.due("letter(0, 0, " + n + ")", x.letter(0, 0, n), Checks.NONE);
        }
    }

    private static void change() {
        SideBySide x = Checks.books("a bcd. ef", "u");
        Checks.due("change(0, 0, 0, 1)", x.change(0, 0, 0, 1), 0);
        Checks.due("change: word", x.word(0, 0, 0), 1);
        Checks.due("change: length", x.sentence(0, 0, 1), 6);
        Checks.due("change: length in all", x.count(0, 4), 8);
        Checks.due("change: kinds stay", x.count(0, 2), 3);
        Checks.due("change: words stay", x.count(0, 3), 3);
        Checks.due("change: letters of kind 0 stay", x.letter(0, 0, 0), 'a');
        Checks.due("change: again", x.change(0, 0, 0, 2), 1);
        Checks.due("change: back", x.change(0, 0, 0, 0), 2);
        Checks.due("change: to the same", x.change(0, 0, 0, 0), 0);
        Checks.due("change: kind 3", x.change(0, 0, 0, 3), Checks.UNKNOWN);
        Checks.due("change: kind -1", x.change(0, 0, 0, -1), Checks.UNKNOWN);
        Checks.due("change: kind of the other book", x.change(1, 0, 0, 1), Checks.UNKNOWN);
        Checks.due("change: word 2", x.change(0, 0, 2, 0), Checks.UNKNOWN);
        Checks.due("change: sentence 2", x.change(0, 2, 0, 0), Checks.UNKNOWN);
        for (int n : Checks.WILD) {
            Checks.due("change(" + n + ", 0, 0, 0)", x.change(n, 0, 0, 0), Checks.UNKNOWN);
            Checks.due("change(0, " + n + ", 0, 0)", x.change(0, n, 0, 0), Checks.UNKNOWN);
            Checks.due("change(0, 0, " + n + ", 0)", x.change(0, 0, n, 0), Checks.UNKNOWN);
            Checks.due("change(0, 0, 0, " + n + ")", x.change(0, 0, 0, n), Checks.UNKNOWN);
        }
        Checks.dueText("change: refusals change nothing", Checks.shown(x, 0), "a bcd|ef");
    }
}
