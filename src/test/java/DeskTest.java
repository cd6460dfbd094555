/** Promises 28 to 37. */
public final class DeskTest {
    public static void main(String[] args) {
        putSentence();
        putJoint();
        putRow();
        clearAndSort();
        writeAndRead();
        spell();
        spellCodes();
        rate();
        code();
        Checks.end();
    }

    private static SideBySide two() {
        return Checks.books("a bb a. c", "u. v w");
    }

    private static void putSentence() {
        SideBySide x = two();
        Checks.due("putSentence(0, 0, 0)", x.putSentence(0, 0, 0), 1);
        Checks.due("putSentence(7, 1, 1)", x.putSentence(7, 1, 1), 1);
        Checks.due("putSentence(8, 0, 0)", x.putSentence(8, 0, 0), Checks.UNKNOWN);
        Checks.due("putSentence(-1, 0, 0)", x.putSentence(-1, 0, 0), Checks.UNKNOWN);
        Checks.due("putSentence(0, 2, 0)", x.putSentence(0, 2, 0), Checks.UNKNOWN);
        Checks.due("putSentence(1, 0, 2)", x.putSentence(1, 0, 2), Checks.UNKNOWN);
        Checks.due("refused: nothing there", x.sort(1), 0);
        for (int n : Checks.WILD) {
            Checks.due("putSentence(" + n + ", 0, 0)", x.putSentence(n, 0, 0), Checks.UNKNOWN);
            Checks.due("putSentence(0, " + n + ", 0)", x.putSentence(0, n, 0), Checks.UNKNOWN);
            Checks.due("putSentence(0, 0, " + n + ")", x.putSentence(0, 0, n), Checks.UNKNOWN);
        }
        x.putRow(1, 2);
        Checks.due("spell of the right book", x.spell(7, 1, 0), 2);
        Checks.due("right kind 1", x.read(1, 0), 1);
        Checks.due("right kind 2", x.read(1, 1), 2);
        x.change(0, 0, 0, 2);
        Checks.book(x, 0, "");
        x.putRow(1, 3);
        Checks.due("as it was when it was laid", x.spell(0, 1, 0), 3);
        Checks.due("kind 0", x.read(1, 0), 0);
        Checks.due("kind 1", x.read(1, 1), 1);
        Checks.due("kind 0 again", x.read(1, 2), 0);
    }

    private static void putJoint() {
        SideBySide x = two();
        Checks.due("putJoint(0, 0)", x.putJoint(0, 0), 1);
        Checks.due("putJoint(0, 9)", x.putJoint(0, 9), Checks.UNKNOWN);
        Checks.due("putJoint(0, -1)", x.putJoint(0, -1), Checks.UNKNOWN);
        Checks.due("putJoint(8, 0)", x.putJoint(8, 0), Checks.UNKNOWN);
        for (int n : Checks.WILD) {
            Checks.due("putJoint(" + n + ", 0)", x.putJoint(n, 0), Checks.UNKNOWN);
            Checks.due("putJoint(1, " + n + ")", x.putJoint(1, n), Checks.UNKNOWN);
        }
        Checks.due("refused: nothing there", x.sort(1), 0);
        Checks.due("a joint", x.sort(0), 2);
    }

    private static void putRow() {
        SideBySide x = new SideBySide();
        Checks.due("putRow(0, 30)", x.putRow(0, 30), 30);
        Checks.due("its last place", x.read(0, 29), 0);
        Checks.due("its last place: code", x.code(), 0);
        x.write(0, 29, 7);
        Checks.due("putRow(0, 31)", x.putRow(0, 31), Checks.OUTSIDE);
        Checks.due("refused: it stays", x.read(0, 29), 7);
        Checks.due("putRow(0, -1)", x.putRow(0, -1), 0);
        Checks.due("putRow(0, -1): code", x.code(), 4);
        Checks.due("code 4: it stays", x.read(0, 29), 7);
        Checks.due("putRow(0, MIN)", x.putRow(0, Integer.MIN_VALUE), 0);
        Checks.due("putRow(0, MIN): code", x.code(), 4);
        Checks.due("putRow(0, MAX)", x.putRow(0, Integer.MAX_VALUE), Checks.OUTSIDE);
        Checks.due("refused: code stays", x.code(), 4);
        Checks.due("putRow(8, -1)", x.putRow(8, -1), Checks.UNKNOWN);
        Checks.due("putRow(-1, 31)", x.putRow(-1, 31), Checks.UNKNOWN);
        Checks.due("refused: code stays still", x.code(), 4);
        Checks.due("putRow(0, 0)", x.putRow(0, 0), 0);
        Checks.due("putRow(0, 0): code", x.code(), 0);
        Checks.due("a row of no places", x.sort(0), 3);
        x.read(0, 0);
        Checks.due("it has no place", x.code(), 3);
        x.putRow(0, 30);
        Checks.due("a new row is all 0", x.read(0, 29), 0);
        x.putRow(1, 4);
        x.write(1, 3, 5);
        x.putRow(1, 2);
        x.putRow(1, 4);
        Checks.due("all 0, behind a shorter one, too", x.read(1, 3), 0);
    }

    private static void clearAndSort() {
        SideBySide x = two();
        x.putRow(0, 2);
        x.putSentence(1, 0, 0);
        x.putJoint(2, 0);
        int[] want = {3, 1, 2, 0, 0, 0, 0, 0};
        for (int s = 0; s < 8; s++) {
            Checks.due("sort(" + s + ")", x.sort(s), want[s]);
            Checks.due("clear(" + s + ")", x.clear(s), want[s] == 0 ? 0 : 1);
            Checks.due("sort(" + s + ") then", x.sort(s), 0);
            Checks.due("clear(" + s + ") then", x.clear(s), 0);
        }
        Checks.due("sort(8)", x.sort(8), Checks.UNKNOWN);
        Checks.due("sort(-1)", x.sort(-1), Checks.UNKNOWN);
        Checks.due("clear(8)", x.clear(8), Checks.UNKNOWN);
        Checks.due("clear(-1)", x.clear(-1), Checks.UNKNOWN);
        for (int n : Checks.WILD) {
            Checks.due("sort(" + n + ")", x.sort(n), Checks.UNKNOWN);
            Checks.due("clear(" + n + ")", x.clear(n), Checks.UNKNOWN);
        }
        x.putSentence(0, 0, 0);
        x.putRow(0, 1);
        Checks.due("one thing in place of another", x.sort(0), 3);
        Checks.due("a row behind a sentence is 0", x.read(0, 0), 0);
    }

    private static void writeAndRead() {
        SideBySide x = two();
        x.putRow(0, 2);
        Checks.due("write(0, 0, 5)", x.write(0, 0, 5), 0);
        Checks.due("write(0, 0, MIN)", x.write(0, 0, Integer.MIN_VALUE), 5);
        Checks.due("read(0, 0)", x.read(0, 0), Integer.MIN_VALUE);
        Checks.due("read(0, 1)", x.read(0, 1), 0);
        x.putSentence(1, 0, 0);
        x.putJoint(2, 0);
        int[][] wrong = {{0, 2, 3}, {0, -1, 3}, {1, 0, 2}, {2, 99, 2}, {3, 0, 1}, {3, -5, 1}};
        for (int[] w : wrong) {
            String at = "(" + w[0] + ", " + w[1] + ")";
            x.putRow(7, 0);
            Checks.due("write" + at, x.write(w[0], w[1], 9), 0);
            Checks.due("write" + at + ": code", x.code(), w[2]);
            x.putRow(7, 0);
            Checks.due("read" + at, x.read(w[0], w[1]), 0);
            Checks.due("read" + at + ": code", x.code(), w[2]);
        }
        Checks.due("a sentence stays", x.sort(1), 1);
        x.read(3, 0);
        for (int n : Checks.WILD) {
            Checks.due("write(" + n + ", 0, 0)", x.write(n, 0, 0), Checks.UNKNOWN);
            Checks.due("read(" + n + ", 0)", x.read(n, 0), Checks.UNKNOWN);
            Checks.due("refused: code stays", x.code(), 1);
        }
        for (int n : Checks.WILD) {
            Checks.due("write(0, " + n + ", 1)", x.write(0, n, 1), 0);
            Checks.due("write(0, " + n + ", 1): code", x.code(), 3);
            Checks.due("read(0, " + n + ")", x.read(0, n), 0);
            Checks.due("read(0, " + n + "): code", x.code(), 3);
        }
        Checks.due("read(8, 0)", x.read(8, 0), Checks.UNKNOWN);
        Checks.due("write(-1, 0, 0)", x.write(-1, 0, 0), Checks.UNKNOWN);
    }

    private static void dueRow(SideBySide x, int s, String when, int... want) {
        for (int i = 0; i < want.length; i++) {
            Checks.due(when + ": place " + i, x.read(s, i), want[i]);
        }
    }

    private static SideBySide withRow(int places) {
        SideBySide x = two();
        x.putSentence(0, 0, 0);
        x.putRow(1, places);
        for (int i = 0; i < places; i++) {
            x.write(1, i, 9);
        }
        return x;
    }

    private static void spell() {
        SideBySide x = withRow(5);
        Checks.due("spell(0, 1, 1)", x.spell(0, 1, 1), 3);
        Checks.due("spell(0, 1, 1): code", x.code(), 0);
        dueRow(x, 1, "spell at 1", 9, 0, 1, 0, 9);
        x = withRow(5);
        Checks.due("spell(0, 1, 2)", x.spell(0, 1, 2), 3);
        dueRow(x, 1, "spell at 2", 9, 9, 0, 1, 0);
        x = withRow(5);
        Checks.due("spell(0, 1, 3)", x.spell(0, 1, 3), 0);
        Checks.due("spell(0, 1, 3): code", x.code(), 3);
        dueRow(x, 1, "spell at 3: those that are there", 9, 9, 9, 0, 1);
        for (int i : new int[] {5, -1, -3, Integer.MIN_VALUE, Integer.MAX_VALUE}) {
            x = withRow(5);
            Checks.due("spell(0, 1, " + i + ")", x.spell(0, 1, i), 0);
            Checks.due("spell(0, 1, " + i + "): code", x.code(), 3);
            dueRow(x, 1, "spell at " + i + ": none", 9, 9, 9, 9, 9);
        }
        x = withRow(0);
        Checks.due("spell into no places", x.spell(0, 1, 0), 0);
        Checks.due("spell into no places: code", x.code(), 3);
    }

    private static void spellCodes() {
        SideBySide x = withRow(5);
        x.putJoint(2, 0);
        int[][] wrong = {{3, 3, 1}, {3, 0, 1}, {1, 3, 2}, {2, 1, 2}, {1, 1, 2}, {0, 3, 1}, {0, 0, 2}, {0, 2, 2}};
        for (int[] w : wrong) {
            String call = "spell(" + w[0] + ", " + w[1] + ", 0)";
            x.putRow(7, 0);
            Checks.due(call, x.spell(w[0], w[1], 0), 0);
            Checks.due(call + ": code", x.code(), w[2]);
        }
        x.spell(0, 0, 77);
        Checks.due("code 2 goes ahead of 3", x.code(), 2);
        for (int n : Checks.WILD) {
            Checks.due("spell(" + n + ", 1, 0)", x.spell(n, 1, 0), Checks.UNKNOWN);
            Checks.due("spell(0, " + n + ", 0)", x.spell(0, n, 0), Checks.UNKNOWN);
            Checks.due("refused: code stays", x.code(), 2);
        }
        Checks.due("spell(3, 8, 0): UNKNOWN goes ahead of code 1", x.spell(3, 8, 0), Checks.UNKNOWN);
    }

    private static void rate() {
        SideBySide x = Checks.books("a b c. d. e", "uu. vv");
        x.putRow(5, 0);
        Checks.due("rate(5)", x.rate(5), 0);
        Checks.due("rate(5): code", x.code(), 2);
        Checks.due("rate(6)", x.rate(6), 0);
        Checks.due("rate(6): code", x.code(), 1);
        Checks.due("rate(8)", x.rate(8), Checks.UNKNOWN);
        Checks.due("rate(-1)", x.rate(-1), Checks.UNKNOWN);
        Checks.due("refused: code stays", x.code(), 1);
        for (int n : Checks.WILD) {
            Checks.due("rate(" + n + ")", x.rate(n), Checks.UNKNOWN);
        }
        Checks.dueText("one and one, two and one", Checks.kinds(x), "03");
        x.putJoint(0, 0);
        x.putJoint(1, 1);
        // Lengths 3 of 5 and 2 of 4: 2 20 / 22 is 1; then 2 of 5 and 2 of 4: 2 20 / 18 is 2.
        Checks.due("price 1 for 3 words", x.rate(0), 33);
        Checks.due("price 1 for 3 words: code", x.code(), 0);
        Checks.due("price 234 for 2 words", x.rate(1), 11700);
        x.term(0, 0);
        Checks.due("prices are others now", x.joint(0, 3), 1 - 15);
        Checks.due("as it was when it was laid", x.rate(0), 33);
        x.putJoint(2, 0);
        Checks.due("-14 for 3 words, cut towards 0", x.rate(2), -466);
        Checks.book(x, 0, "");
        Checks.due("without the book", x.rate(2), -466);
        x.putJoint(3, 0);
        Checks.due("right alone", x.rate(3), 0);
        Checks.due("right alone: code", x.code(), 6);
        SideBySide y = Checks.books("a b c d", "");
        y.putJoint(0, 0);
        Checks.due("left alone", y.rate(0), 11250);
    }

    private static void code() {
        SideBySide x = two();
        x.read(0, 0);
        Checks.due("code 1", x.code(), 1);
        Checks.due("code() itself names none", x.code(), 1);
        x.putSentence(0, 0, 0);
        x.putJoint(1, 0);
        x.clear(1);
        x.sort(0);
        x.lay();
        x.rounds(1);
        x.count(0, 0);
        x.putSentence(9, 9, 9);
        Checks.due("calls that name no codes leave it", x.code(), 1);
        x.putRow(1, 4);
        Checks.due("putRow: 0", x.code(), 0);
        x.rate(7);
        Checks.due("rate: 1", x.code(), 1);
        x.write(1, 0, 3);
        Checks.due("write: 0", x.code(), 0);
        x.rate(7);
        x.read(1, 0);
        Checks.due("read: 0", x.code(), 0);
        x.rate(7);
        x.spell(0, 1, 0);
        Checks.due("spell: 0", x.code(), 0);
        x.read(7, 0);
        x.putJoint(2, 0);
        x.rate(2);
        Checks.due("rate: 0", x.code(), 0);
    }
}
