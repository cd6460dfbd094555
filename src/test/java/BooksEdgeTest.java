/** Section 1 and promises 1 to 10: for each sentence that names an edge a test of its own. */
public final class BooksEdgeTest {
    public static void main(String[] args) {
        booksAtFirst();
        tapeOf1600Bytes();
        takeInPlaceOrFull();
        letters();
        rowsOfLetters();
        pointsBetweenDigits();
        endsOfSentences();
        pointsBehindShortForms();
        endsOfParagraphs();
        nothingWithoutWords();
        lengthAsKept();
        twentySentences();
        tenWords();
        fortyKinds();
        kindsAsTheyComeFirst();
        sixShortForms();
        newObject();
        feedHighestByteFirst();
        feedFull();
        cutBounds();
        cutKeepsTheFirst();
        abbreviateOneWord();
        abbreviateNot();
        abbreviateFull();
        abbreviateAgain();
        takeEmptiesAndForgets();
        takeBounds();
        takeOfTheEmptyTape();
        countBounds();
        countLeastAndGreatest();
        sentenceBounds();
        wordBounds();
        letterBounds();
        letterNone();
        changeBounds();
        changeLengths();
        Checks.end();
    }

    private static String cutSo(String text) {
        SideBySide x = new SideBySide();
        Checks.book(x, 0, text);
        return Checks.shown(x, 0);
    }

    private static void dueCut(String text, String want) {
        Checks.dueText("take() of '" + text + "'", cutSo(text), want);
    }

    private static SideBySide greatest() {
        return Checks.books(Checks.greatestBook('l'), Checks.greatestBook('r'));
    }

    // ---- section 1

    private static void booksAtFirst() {
        Checks.says("Section 1", "BOOKS: 0 THE LEFT, 1 THE RIGHT, without SENTENCES at first.");
        SideBySide x = new SideBySide();
        for (int b = 0; b < 2; b++) {
            Checks.due("count(" + b + ", 0)", x.count(b, 0), 0);
            Checks.due("sentence(" + b + ", 0, 0)", x.sentence(b, 0, 0), Checks.UNKNOWN);
            Checks.due("word(" + b + ", 0, 0)", x.word(b, 0, 0), Checks.UNKNOWN);
            Checks.due("letter(" + b + ", 0, 0)", x.letter(b, 0, 0), Checks.UNKNOWN);
        }
        Checks.book(x, 0, "a.b");
        Checks.due("the left one is taken, the right one is not", x.count(1, 0), 0);
        Checks.book(x, 1, "u.v.w");
        Checks.due("the left one has no third sentence", x.loosen(2), Checks.UNKNOWN);
        Checks.due("the right one has", x.fast(1, 2), 1);
    }

    private static void tapeOf1600Bytes() {
        Checks.says("Section 1", "THE TAPE has up to 1600 bytes");
        SideBySide x = new SideBySide();
        Checks.due("1600 bytes", Checks.type(x, " ".repeat(1599) + "a"), 1600);
        Checks.due("twenty more", x.feed(0, 0, 0, 0, 0), Checks.FULL);
        Checks.due("the last one counts", x.take(0), 1);
        Checks.due("then there is room again", x.feed(0, 0, 0, 0, 0), 20);
    }

    private static void takeInPlaceOrFull() {
        Checks.says("Section 1", "take() makes of it a BOOK, in place of the one there, or is FULL (then the BOOK stays, "
            + "THE TAPE, too).");
        for (int b = 0; b < 2; b++) {
            SideBySide x = new SideBySide();
            Checks.book(x, b, "a b. c d\ne");
            Checks.due("in place of another", Checks.book(x, b, "f"), 1);
            Checks.dueText("in place of another", Checks.shown(x, b), "f");
            Checks.due("its kinds alone", x.count(b, 2), 1);
            Checks.due("its paragraph alone", x.count(b, 1), 1);
            Checks.due("21 sentences", Checks.book(x, b, "g.".repeat(21)), Checks.FULL);
            Checks.dueText("the book stays", Checks.shown(x, b), "f");
            Checks.due("42 bytes stay", x.cut(40), 2);
            Checks.due("as they were", x.take(b), 20);
            Checks.dueText("as they were", Checks.spelling(x, b, 0), "g");
        }
    }

    private static boolean isLetter(int c) {
        return "abcdefghijklmnopqrstuvwxyzABCDEFGHIJKLMNOPQRSTUVWXYZ0123456789".indexOf(c) >= 0;
    }

    private static String between(String left, int c, String right) {
        if (isLetter(c)) {
            return left + Character.toLowerCase((char) c) + right;
        }
        return left + (c == 10 ? "/" : "!.?".indexOf(c) >= 0 ? "|" : " ") + right;
    }

    private static void letters() {
        Checks.says("Section 1", "LETTERS are a to z, A to Z (these count as a to z), 0 to 9");
        for (int c = 0; c < 256; c++) {
            if (isLetter(c)) {
                dueCut("x" + (char) c + "y", between("x", c, "y"));
            }
        }
        Checks.says("Section 1", "Each other byte parts WORDS.");
        for (int c = 0; c < 256; c++) {
            if (!isLetter(c)) {
                dueCut("x" + (char) c + "y", between("x", c, "y"));
            }
        }
    }

    private static void rowsOfLetters() {
        Checks.says("Section 1", "a row of LETTERS, as long as can be, is a WORD, of its first 10.");
        dueCut("a", "a");
        dueCut("abcdefghi", "abcdefghi");
        dueCut("abcdefghij", "abcdefghij");
        dueCut("abcdefghijk", "abcdefghij");
        dueCut("abcdefghijklmnopqrstuv w", "abcdefghij w");
        dueCut("z".repeat(1600), "zzzzzzzzzz");
    }

    private static void pointsBetweenDigits() {
        Checks.says("Section 1", "A point (46) between two digits parts nothing: it is a LETTER of that WORD, too.");
        dueCut("0.9", "0.9");
        dueCut("9.0", "9.0");
        dueCut("1.2.3", "1.2.3");
        dueCut("a1.2b", "a1.2b");
        dueCut("1.", "1");
        dueCut(".1", "1");
        dueCut("1. 2", "1|2");
        dueCut("1 .2", "1|2");
        dueCut("1..2", "1|2");
        dueCut("1.\n2", "1/2");
        dueCut("1.a", "1|a");
        dueCut("a.1", "a|1");
        dueCut("/.5:.5", "5|5");
        dueCut("5./5.:", "5|5");
        dueCut("1!2", "1|2");
        dueCut("123456789.5 x", "123456789. x");
        dueCut("1234567890.5 x", "1234567890 x");
        SideBySide x = new SideBySide();
        Checks.type(x, "a 1.5");
        x.cut(4);
        x.take(0);
        Checks.dueText("a digit that was cut off", Checks.shown(x, 0), "a 1");
        Checks.type(x, " ".repeat(19) + "1");
        Checks.type(x, ".5");
        x.take(0);
        Checks.dueText("digits of two calls of feed()", Checks.shown(x, 0), "1.5");
    }

    private static void endsOfSentences() {
        Checks.says("Section 1", "Bytes 33, 46, 63 (! . ?) end a SENTENCE");
        dueCut("a!b.c?d", "a|b|c|d");
        dueCut("a\"b-c>d@e/f", "a b c d e f");
    }

    private static void pointsBehindShortForms() {
        Checks.says("Section 1", "but a point right behind a WORD that is a SHORT FORM does not");
        String[][] cuts = {{"mr. a", "mr a"}, {"MR. a", "mr a"}, {"mr.a", "mr a"}, {".mr. a", "mr a"}, {"mr.", "mr"},
            {"mr.. a", "mr|a"}, {"mr . a", "mr|a"}, {"mr-. a", "mr|a"}, {"mr! a", "mr|a"}, {"mr? a", "mr|a"},
            {"mr.\na", "mr/a"}, {"xmr. a", "xmr|a"}, {"mrx. a", "mrx|a"}, {"m. a", "m|a"}, {"mr. mr. a", "mr mr a"},
            {"abcdefghij. a", "abcdefghij a"}, {"abcdefghijk. a", "abcdefghij a"}, {"abcdefghi. a", "abcdefghi|a"},
            {"7. 8", "7 8"}, {"7.8", "7.8"}, {"7.x", "7 x"}, {"17. 8", "17|8"}};
        SideBySide x = new SideBySide();
        Checks.shortForm(x, "mr");
        Checks.shortForm(x, "abcdefghij");
        Checks.shortForm(x, "7");
        for (String[] cut : cuts) {
            Checks.book(x, 0, cut[0]);
            Checks.dueText("take() of '" + cut[0] + "'", Checks.shown(x, 0), cut[1]);
        }
    }

    private static void endsOfParagraphs() {
        Checks.says("Section 1", "a byte 10 ends a SENTENCE and a PARAGRAPH, the end of THE TAPE does both.");
        dueCut("a\nb", "a/b");
        dueCut("a.\nb.", "a/b");
        dueCut("a. b\nc", "a|b/c");
        SideBySide x = new SideBySide();
        Checks.book(x, 0, "a b");
        Checks.due("a sentence without an end", x.count(0, 0), 1);
        Checks.due("a paragraph without an end", x.count(0, 1), 1);
        Checks.book(x, 0, "a\n");
        Checks.due("an end, and that of the tape: one paragraph", x.count(0, 1), 1);
    }

    private static void nothingWithoutWords() {
        Checks.says("Section 1", "A SENTENCE without WORDS is none; a PARAGRAPH without SENTENCES is none.");
        String[] nothing = {"", " ", ".", "...", "!?.", "\n", "\n\n\n", " .\n!\n?", "\u0000\u00ff"};
        for (String text : nothing) {
            SideBySide x = new SideBySide();
            Checks.due("take() of '" + text + "'", Checks.book(x, 0, text), 0);
            Checks.due("paragraphs of '" + text + "'", x.count(0, 1), 0);
        }
        dueCut(".a", "a");
        dueCut("\na", "a");
        dueCut("a..b", "a|b");
        dueCut("a\n\n.\n\nb", "a/b");
        SideBySide x = new SideBySide();
        Checks.book(x, 0, "\n.\na\n!\n\nb\n\n");
        Checks.due("paragraphs that have sentences", x.count(0, 1), 2);
        Checks.due("the number of the second one", x.sentence(0, 1, 2), 1);
    }

    private static void lengthAsKept() {
        Checks.says("Section 1", "Its LENGTH: the LETTERS of its WORDS (as they are kept) in all.");
        SideBySide x = new SideBySide();
        Checks.book(x, 0, "abcdefghijk. 1.5, z. a-a. 123456789.5");
        int[] want = {10, 4, 2, 10};
        for (int s = 0; s < 4; s++) {
            Checks.due("sentence(0, " + s + ", 1)", x.sentence(0, s, 1), want[s]);
        }
    }

    private static void twentySentences() {
        Checks.says("Section 1", "FULL: more than 20 SENTENCES");
        for (String end : new String[] {".", "!", "?", "\n"}) {
            SideBySide x = new SideBySide();
            Checks.due("20 by '" + end + "'", Checks.book(x, 0, ("a" + end).repeat(20)), 20);
            Checks.due("21 by '" + end + "'", Checks.book(x, 0, ("a" + end).repeat(21)), Checks.FULL);
            x.cut(0);
            Checks.due("the 21st by the end of the tape", Checks.book(x, 0, ("a" + end).repeat(20) + "a"), Checks.FULL);
            x.cut(0);
            Checks.due("ends behind the 20th", Checks.book(x, 0, ("a" + end).repeat(20) + "..\n\n! ,"), 20);
            Checks.due("the 20th by the end of the tape", Checks.book(x, 1, ("a" + end).repeat(19) + "a"), 20);
            Checks.due("21 on the right", Checks.book(x, 1, ("a" + end).repeat(21)), Checks.FULL);
        }
    }

    private static void tenWords() {
        Checks.says("Section 1", "FULL: more than 20 SENTENCES, 10 WORDS in a SENTENCE");
        for (String end : new String[] {".", "!", "?", "\n", ""}) {
            for (int b = 0; b < 2; b++) {
                SideBySide x = new SideBySide();
                Checks.due("10 by '" + end + "'", Checks.book(x, b, "a ".repeat(9) + "a" + end), 1);
                Checks.due("11 by '" + end + "'", Checks.book(x, b, "a ".repeat(10) + "a" + end), Checks.FULL);
                x.cut(0);
                Checks.due("11 in the last one", Checks.book(x, b, "b.".repeat(19) + "a ".repeat(11) + end), Checks.FULL);
                x.cut(0);
                Checks.due("10 in the last one", Checks.book(x, b, "b.".repeat(19) + "a ".repeat(10) + end), 20);
            }
        }
        SideBySide x = new SideBySide();
        Checks.due("10 and 10", Checks.book(x, 0, "a ".repeat(10) + "!" + "a ".repeat(10)), 2);
        Checks.shortForm(x, "mr");
        Checks.due("10 behind points that end nothing", Checks.book(x, 0, "mr.".repeat(10)), 1);
        Checks.due("11 behind points that end nothing", Checks.book(x, 0, "mr.".repeat(11)), Checks.FULL);
    }

    private static void fortyKinds() {
        Checks.says("Section 1", "FULL: more than 20 SENTENCES, 10 WORDS in a SENTENCE, 40 unlike WORDS in a BOOK.");
        for (int b = 0; b < 2; b++) {
            SideBySide x = new SideBySide();
            Checks.due("40", Checks.book(x, b, Checks.unlikeWords(40, 10)), 4);
            Checks.due("40 are there", x.count(b, 2), 40);
            Checks.due("41", Checks.book(x, b, Checks.unlikeWords(41, 10)), Checks.FULL);
            x.cut(0);
            Checks.due("41, five a sentence", Checks.book(x, b, Checks.unlikeWords(41, 5)), Checks.FULL);
            x.cut(0);
            Checks.due("40, each five times", Checks.book(x, b, Checks.unlikeWords(40, 10).repeat(5)), 20);
            Checks.due("40 are there", x.count(b, 2), 40);
            String unlikeBehind = Checks.unlikeWords(39, 10) + ".abcdefghijk abcdefghijl ABCDEFGHIJ";
            Checks.due("what is alike in its first 10 is one", Checks.book(x, b, unlikeBehind), 5);
            Checks.due("40 are there", x.count(b, 2), 40);
        }
        SideBySide x = Checks.books(Checks.unlikeWords(40, 10), Checks.unlikeWords(40, 10).replace('k', 'm'));
        Checks.due("each book has 40 of its own", x.count(0, 2) + x.count(1, 2), 80);
    }

    private static void kindsAsTheyComeFirst() {
        Checks.says("Section 1", "Unlike WORDS of a BOOK are its KINDS, numbered as they come first.");
        SideBySide x = Checks.books("b a B. A c", "c a b");
        int[][] words = {{0, 0, 0}, {0, 1, 1}, {0, 2, 0}, {1, 0, 1}, {1, 1, 2}};
        for (int[] w : words) {
            Checks.due("word(0, " + w[0] + ", " + w[1] + ")", x.word(0, w[0], w[1]), w[2]);
        }
        for (int k = 0; k < 3; k++) {
            Checks.due("left kind " + k, x.letter(0, k, 0), "bac".charAt(k));
            Checks.due("right kind " + k, x.letter(1, k, 0), "cab".charAt(k));
        }
    }

    private static void sixShortForms() {
        Checks.says("Section 1", "SHORT FORMS (6 at most) are WORDS that were told.");
        SideBySide x = new SideBySide();
        String[] forms = {"a", "b", "c", "d", "e", "f"};
        for (int n = 0; n < 6; n++) {
            Checks.due("short form " + n, Checks.shortForm(x, forms[n]), n + 1);
        }
        Checks.due("a seventh", Checks.shortForm(x, "g"), Checks.FULL);
        x.cut(0);
        Checks.book(x, 0, "a. b. c. d. e. f. g. h");
        Checks.dueText("six end nothing, the seventh does", Checks.shown(x, 0), "a b c d e f g|h");
    }

    // ---- promises 1 to 5

    private static void newObject() {
        Checks.says("Promise 1", "Two BOOKS without SENTENCES, no SHORT FORMS, nothing FAST, no TERMS, PARAGRAPHS are not "
            + "KEPT; THE DESK is empty; CODE 0.");
        SideBySide x = new SideBySide();
        Checks.due("code()", x.code(), 0);
        Checks.due("bytes of the tape", x.cut(0), 0);
        for (int s = 0; s < 8; s++) {
            Checks.due("sort(" + s + ")", x.sort(s), 0);
        }
        for (int b = 0; b < 2; b++) {
            for (int what = 0; what < 5; what++) {
                Checks.due("count(" + b + ", " + what + ")", x.count(b, what), 0);
            }
        }
        Checks.due("keep(true)", x.keep(true), 0);
        Checks.due("take() of a text with points", Checks.book(x, 0, "mr. a. 1. b"), 4);
        Checks.due("the first short form", Checks.shortForm(x, "mr"), 1);
        Checks.book(x, 1, "u. v");
        Checks.due("loosen(0)", x.loosen(0), 0);
        Checks.due("the first pair", x.fast(0, 0), 1);
        Checks.due("partner(0, 2)", x.partner(0, 2), Checks.NONE);
        Checks.due("the first term", x.term(0, 0), 1);
    }

    private static void feedHighestByteFirst() {
        Checks.says("Promise 2", "Twenty bytes come behind THE TAPE, each number's highest one first: how many it has.");
        SideBySide x = new SideBySide();
        Checks.due("a b c d e f g h i j", x.feed(0x61206220, 0x63206420, 0x65206620, 0x67206820, 0x69206A20), 20);
        x.take(0);
        Checks.dueText("bytes 0, 2, .. 18", Checks.shown(x, 0), "a b c d e f g h i j");
        x.feed(0x20612062, 0x20632064, 0x20652066, 0x20672068, 0x2069206A);
        x.take(0);
        Checks.dueText("bytes 1, 3, .. 19", Checks.shown(x, 0), "a b c d e f g h i j");
        x.feed(-1, 0, 0x80000000, 0x7FFFFFFF, 0x2020207A);
        Checks.due("behind those that are there", x.feed(0x79202020, 0, 0, 0, -1), 40);
        x.take(0);
        Checks.dueText("the greatest and the least bytes", Checks.shown(x, 0), "zy");
    }

    private static void feedFull() {
        Checks.says("Promise 2", "FULL.");
        SideBySide x = new SideBySide();
        for (int n = 20; n <= 1600; n += 20) {
            Checks.due("feed() to " + n, x.feed(0, 0, 0, 0, 0), n);
        }
        for (int n = 1600; n > 1580; n--) {
            x.cut(n);
            Checks.due("feed() onto " + n, x.feed(0, 0, 0, 0, 0), Checks.FULL);
        }
        x.cut(1580);
        Checks.due("feed() onto 1580", x.feed(0, 0, 0, 0, 0), 1600);
    }

    private static void cutBounds() {
        Checks.says("Promise 3", "OUTSIDE.");
        SideBySide empty = new SideBySide();
        Checks.bounds("cut() of the empty tape", empty::cut, 0, 0, Checks.OUTSIDE);
        SideBySide full = new SideBySide();
        Checks.type(full, " ".repeat(1600));
        Checks.due("cut(1601) of 1600", full.cut(1601), Checks.OUTSIDE);
        Checks.due("cut(-1) of 1600", full.cut(-1), Checks.OUTSIDE);
        Checks.due("cut(1600) of 1600", full.cut(1600), 0);
        Checks.due("cut(1599) of 1600", full.cut(1599), 1);
        Checks.due("cut(1600) of 1599", full.cut(1600), Checks.OUTSIDE);
        Checks.due("cut(0) of 1599", full.cut(0), 1599);
        Checks.due("cut(1) then", full.cut(1), Checks.OUTSIDE);
    }

    private static void cutKeepsTheFirst() {
        Checks.says("Promise 3", "THE TAPE keeps its first n bytes: how many went.");
        SideBySide x = new SideBySide();
        Checks.type(x, "ab cd");
        Checks.due("cut(4)", x.cut(4), 1);
        Checks.due("cut(4) again", x.cut(4), 0);
        x.take(0);
        Checks.dueText("four bytes", Checks.shown(x, 0), "ab c");
        Checks.type(x, "ab");
        x.cut(1);
        Checks.type(x, "z");
        x.take(0);
        Checks.dueText("what comes then stands right behind them", Checks.shown(x, 0), "az");
    }

    private static void abbreviateOneWord() {
        Checks.says("Promise 4", "THE TAPE, which is one WORD (blanks or other parting bytes around it do not matter), is a "
            + "SHORT FORM: how many there are; THE TAPE is empty then.");
        SideBySide x = new SideBySide();
        String[] tapes = {"a", " b ", "\n.!?c?!.\n", "\u0000\u00ff1.5\u0080,", "z".repeat(1600), "D."};
        for (int n = 0; n < tapes.length; n++) {
            Checks.due("abbreviate() " + n, Checks.shortForm(x, tapes[n]), n + 1);
            Checks.due("the tape is empty", x.cut(0), 0);
        }
        Checks.book(x, 0, "A. b. c. 1.5. zzzzzzzzzzzz. d. e. f");
        Checks.dueText("what ends", Checks.shown(x, 0), "a b c 1.5 zzzzzzzzzz d e|f");
    }

    private static void abbreviateNot() {
        Checks.says("Promise 4", "NOT: it is no WORD, or more than one");
        String[] tapes = {"", " ", ".", "\n", "a b", "a.b", "a\na", "a-a", "1. 5", "1.a", "a b c"};
        for (String tape : tapes) {
            SideBySide x = new SideBySide();
            Checks.due("abbreviate() of '" + tape + "'", Checks.shortForm(x, tape), Checks.NOT);
            Checks.due("the tape stays", x.cut(0), tape.length());
            Checks.due("the first one is still to come", Checks.shortForm(x, "a"), 1);
        }
    }

    private static void abbreviateFull() {
        Checks.says("Promise 4", "FULL.");
        SideBySide x = new SideBySide();
        for (int n = 1; n <= 6; n++) {
            Checks.due("abbreviate() " + n, Checks.shortForm(x, "w" + n), n);
        }
        Checks.due("abbreviate() 7", Checks.shortForm(x, "w7"), Checks.FULL);
        Checks.due("the tape stays", x.take(0), 1);
        Checks.dueText("as it was", Checks.shown(x, 0), "w7");
    }

    private static void abbreviateAgain() {
        Checks.says("Promise 4", "(One that is told again changes nothing else.)");
        SideBySide x = new SideBySide();
        for (int n = 1; n <= 6; n++) {
            Checks.shortForm(x, "w" + n);
            Checks.due("told again, " + n, Checks.shortForm(x, "W" + n), n);
            Checks.due("the tape is empty", x.cut(0), 0);
        }
        Checks.due("the first one again, with six", Checks.shortForm(x, "w1"), 6);
        Checks.due("the tape is empty", x.cut(0), 0);
        SideBySide y = new SideBySide();
        Checks.shortForm(y, "abcdefghij");
        Checks.due("alike in the first 10", Checks.shortForm(y, "abcdefghijk"), 1);
        Checks.due("alike in the first 9", Checks.shortForm(y, "abcdefghi"), 2);
    }

    private static void takeEmptiesAndForgets() {
        Checks.says("Promise 5", "THE TAPE becomes BOOK b (it is empty then; FAST pairs, TERMS are gone, all SHARES equal): "
            + "how many SENTENCES.");
        for (int b = 0; b < 2; b++) {
            SideBySide x = Checks.books("a b. c", "u v. w");
            x.fast(0, 1);
            x.term(0, 2);
            x.term(1, 0);
            x.rounds(2);
            Checks.due("take(" + b + ")", Checks.book(x, b, "p q. r. s"), 3);
            Checks.due("the tape is empty", x.cut(0), 0);
            Checks.due("no pair", x.loosen(0), 0);
            Checks.due("both of the pair are free", x.fast(0, 1), 1);
            int even = Checks.UNIT / (x.count(1, 2) + 1);
            for (int a = 0; a < x.count(0, 2); a++) {
                Checks.due("no term for " + a, x.partner(a, 2), Checks.NONE);
                for (int k = -1; k < x.count(1, 2); k++) {
                    Checks.due("share(" + a + ", " + k + ")", x.share(a, k), even);
                }
            }
        }
    }

    private static void takeBounds() {
        Checks.says("Promise 5", "UNKNOWN, FULL.");
        SideBySide x = new SideBySide();
        Checks.bounds("take()", x::take, 0, 1, Checks.UNKNOWN);
        Checks.due("FULL", Checks.book(x, 0, "a.".repeat(21)), Checks.FULL);
    }

    private static void takeOfTheEmptyTape() {
        Checks.says("Promise 5", "how many SENTENCES");
        for (int b = 0; b < 2; b++) {
            SideBySide x = Checks.books("a b. c", "u v. w");
            Checks.due("take(" + b + ") of the empty tape", x.take(b), 0);
            for (int what = 0; what < 5; what++) {
                Checks.due("count(" + b + ", " + what + ")", x.count(b, what), 0);
            }
            Checks.due("no sentence is left", x.sentence(b, 0, 0), Checks.UNKNOWN);
            Checks.due("the other book stays", x.count(1 - b, 0), 2);
            Checks.due("20 sentences", Checks.book(x, b, "a.".repeat(20)), 20);
        }
    }

    // ---- promises 6 to 10

    private static void countBounds() {
        Checks.says("Promise 6", "UNKNOWN, OUTSIDE.");
        SideBySide x = new SideBySide();
        Checks.bounds("count() of an empty book", b -> x.count(b, 0), 0, 1, Checks.UNKNOWN);
        Checks.bounds("count(0, what), empty", what -> x.count(0, what), 0, 4, Checks.OUTSIDE);
        Checks.bounds("count(1, what), empty", what -> x.count(1, what), 0, 4, Checks.OUTSIDE);
        SideBySide y = Checks.books("a", "u");
        Checks.bounds("count(b, 4)", b -> y.count(b, 4), 0, 1, Checks.UNKNOWN);
        Checks.bounds("count(1, what)", what -> y.count(1, what), 0, 4, Checks.OUTSIDE);
    }

    private static void countLeastAndGreatest() {
        Checks.says("Promise 6", "Of BOOK b: what = 0 SENTENCES, 1 PARAGRAPHS, 2 KINDS, 3 WORDS, 4 LENGTH in all.");
        SideBySide x = greatest();
        SideBySide y = Checks.books("a", "");
        int[] most = {20, 20, 40, 200, 1400};
        for (int what = 0; what < 5; what++) {
            Checks.due("the greatest left book: " + what, x.count(0, what), most[what]);
            Checks.due("the greatest right book: " + what, x.count(1, what), most[what]);
            Checks.due("the least book: " + what, y.count(0, what), 1);
            Checks.due("the empty book: " + what, y.count(1, what), 0);
        }
    }

    private static void sentenceBounds() {
        Checks.says("Promise 7", "UNKNOWN, OUTSIDE.");
        SideBySide x = greatest();
        Checks.bounds("sentence(b, 19, 0)", b -> x.sentence(b, 19, 0), 0, 1, Checks.UNKNOWN);
        Checks.bounds("sentence(0, s, 0)", s -> x.sentence(0, s, 0), 0, 19, Checks.UNKNOWN);
        Checks.bounds("sentence(1, s, 2)", s -> x.sentence(1, s, 2), 0, 19, Checks.UNKNOWN);
        Checks.bounds("sentence(0, 0, what)", what -> x.sentence(0, 0, what), 0, 2, Checks.OUTSIDE);
        int[] last = {10, 70, 19};
        for (int what = 0; what < 3; what++) {
            Checks.due("sentence(1, 19, " + what + ")", x.sentence(1, 19, what), last[what]);
        }
        SideBySide y = Checks.books("a", "");
        Checks.bounds("sentence(0, s, 1) of one", s -> y.sentence(0, s, 1), 0, 0, Checks.UNKNOWN);
        Checks.due("sentence(1, 0, 0) of none", y.sentence(1, 0, 0), Checks.UNKNOWN);
    }

    private static void wordBounds() {
        Checks.says("Promise 8", "The KIND of WORD w of SENTENCE s of BOOK b. UNKNOWN.");
        SideBySide x = greatest();
        Checks.bounds("word(b, 19, 9)", b -> x.word(b, 19, 9), 0, 1, Checks.UNKNOWN);
        Checks.bounds("word(0, s, 9)", s -> x.word(0, s, 9), 0, 19, Checks.UNKNOWN);
        Checks.bounds("word(1, 19, w)", w -> x.word(1, 19, w), 0, 9, Checks.UNKNOWN);
        Checks.due("the first word", x.word(0, 0, 0), 0);
        Checks.due("the last word", x.word(0, 19, 9), 39);
        SideBySide y = Checks.books("a. b c", "");
        Checks.bounds("word(0, 0, w) of one", w -> y.word(0, 0, w), 0, 0, Checks.UNKNOWN);
        Checks.bounds("word(0, 1, w) of two", w -> y.word(0, 1, w), 0, 1, Checks.UNKNOWN);
        Checks.due("word(1, 0, 0) of none", y.word(1, 0, 0), Checks.UNKNOWN);
    }

    private static void letterBounds() {
        Checks.says("Promise 9", "UNKNOWN (BOOK, KIND as a WORD).");
        SideBySide x = greatest();
        Checks.bounds("letter(b, 39, 6)", b -> x.letter(b, 39, 6), 0, 1, Checks.UNKNOWN);
        Checks.bounds("letter(0, k, 0)", k -> x.letter(0, k, 0), 0, 39, Checks.UNKNOWN);
        Checks.bounds("letter(1, k, 9), UNKNOWN ahead of NONE", k -> x.letter(1, k, 9), 0, 39, Checks.UNKNOWN);
        SideBySide y = Checks.books("a", "");
        Checks.due("letter(1, 0, 0) of no kind", y.letter(1, 0, 0), Checks.UNKNOWN);
        Checks.book(y, 0, "");
        Checks.due("letter(0, 0, 0) of a kind that was", y.letter(0, 0, 0), Checks.UNKNOWN);
    }

    private static void letterNone() {
        Checks.says("Promise 9", "LETTER i of KIND k of BOOK b, as a byte; NONE: it has no such one.");
        SideBySide x = Checks.books("a abcdefghijk Z9", "0.1");
        Checks.due("the only one", x.letter(0, 0, 0), 97);
        Checks.due("the tenth", x.letter(0, 1, 9), 106);
        Checks.due("a capital", x.letter(0, 2, 0), 122);
        Checks.due("the greatest digit", x.letter(0, 2, 1), 57);
        Checks.due("the least digit", x.letter(1, 0, 0), 48);
        Checks.due("a point", x.letter(1, 0, 1), 46);
        int[] lengths = {1, 10, 2};
        for (int k = 0; k < 3; k++) {
            for (int i : new int[] {-1, lengths[k], 10, Integer.MIN_VALUE, Integer.MAX_VALUE}) {
                Checks.due("letter(0, " + k + ", " + i + ")", x.letter(0, k, i), Checks.NONE);
            }
        }
    }

    private static void changeBounds() {
        Checks.says("Promise 10", "UNKNOWN (also k).");
        SideBySide x = greatest();
        Checks.bounds("change(b, 19, 9, 39)", b -> x.change(b, 19, 9, 39), 0, 1, Checks.UNKNOWN);
        Checks.bounds("change(0, s, 9, 39)", s -> x.change(0, s, 9, 39), 0, 19, Checks.UNKNOWN);
        Checks.bounds("change(1, 19, w, 39)", w -> x.change(1, 19, w, 39), 0, 9, Checks.UNKNOWN);
        Checks.bounds("change(1, 19, 9, k)", k -> x.change(1, 19, 9, k), 0, 39, Checks.UNKNOWN);
        SideBySide y = Checks.books("a", "u v");
        Checks.due("a kind of the other book", y.change(0, 0, 0, 1), Checks.UNKNOWN);
        Checks.book(y, 0, "");
        Checks.due("a word that was", y.change(0, 0, 0, 0), Checks.UNKNOWN);
    }

    private static void changeLengths() {
        Checks.says("Promise 10", "Changes KIND of WORD w of SENTENCE s of BOOK b to KIND k of that BOOK (LENGTHS change, "
            + "too): the KIND that it was.");
        SideBySide x = Checks.books("a bbb. cccccccccc", "u");
        Checks.due("to the greatest kind", x.change(0, 0, 0, 2), 0);
        Checks.due("its sentence", x.sentence(0, 0, 1), 13);
        Checks.due("its book", x.count(0, 4), 23);
        Checks.due("the other one", x.sentence(0, 1, 1), 10);
        Checks.due("to the same one", x.change(0, 0, 0, 2), 2);
        Checks.due("nothing more", x.count(0, 4), 23);
        Checks.due("to the least kind", x.change(0, 1, 0, 0), 2);
        Checks.due("its sentence", x.sentence(0, 1, 1), 1);
        Checks.due("no word is left of kind 1", x.change(0, 0, 1, 0), 1);
        Checks.due("kind 1 stays a kind", x.count(0, 2), 3);
        Checks.dueText("with its letters", Checks.spelling(x, 0, 1), "bbb");
        Checks.due("and may come again", x.change(0, 0, 1, 1), 0);
        Checks.due("words stay as many", x.count(0, 3), 3);
    }
}
