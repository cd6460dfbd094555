import java.util.function.Consumer;
import java.util.function.ToIntFunction;

/** Section 5 and promises 28 to 37: for each sentence that names an edge a test of its own. */
public final class DeskEdgeTest {
    private static final String UNCHANGED =
        "A call with a CODE above 0 answers 0 and changes nothing but what is told";

    public static void main(String[] args) {
        eightSlots();
        eachCode();
        codeChangesNothing();
        divisionChangesNothing();
        refusalsLeaveCode();
        staysAsItWasLaid();
        putSentenceBounds();
        putSentenceLeastAndGreatest();
        putJointBounds();
        putJointInPlace();
        putRowBounds();
        putRowBelowZero();
        putRowAllZero();
        clearBounds();
        clearSomethingOrNothing();
        sortBounds();
        writeBounds();
        writeAnyNumber();
        writeCodes();
        readBounds();
        readCodes();
        spellBounds();
        spellCodes();
        spellWhatFits();
        spellAtNoPlace();
        spellAsItWasLaid();
        rateBounds();
        rateCodes();
        rateTowardsZero();
        codeOfTheLatest();
        Checks.end();
    }

    private static SideBySide two() {
        return Checks.books("a bb a. c", "u. v w");
    }

    /** Slot 0 has a sentence of three words, 1 a joint, 2 a row of four places, 3 a joint without left words. */
    private static void laid(SideBySide x) {
        Checks.book(x, 1, "u");
        x.putJoint(3, 0);
        Checks.book(x, 0, "a bb a. c");
        Checks.book(x, 1, "u. v w");
        x.putSentence(0, 0, 0);
        x.putJoint(1, 0);
        x.putRow(2, 4);
        x.write(2, 1, 7);
    }

    private static SideBySide desk() {
        SideBySide x = new SideBySide();
        laid(x);
        return x;
    }

    private static void dueCode(String call, SideBySide x, int answer, int code) {
        Checks.due(call, answer, 0);
        Checks.due(call + ": code()", x.code(), code);
    }

    private static void dueRow(SideBySide x, int s, String when, int... want) {
        for (int i = 0; i < want.length; i++) {
            Checks.due(when + ": place " + i, x.read(s, i), want[i]);
        }
        x.read(s, want.length);
        Checks.due(when + ": no further place", x.code(), 3);
    }

    // ---- section 5

    private static void eightSlots() {
        Checks.says("Section 5", "THE DESK has SLOTS 0 .. 7, each with nothing, a SENTENCE, a JOINT or a ROW of numbers.");
        SideBySide x = two();
        for (int s = 0; s < 8; s++) {
            Checks.due("sort(" + s + ")", x.sort(s), 0);
            Checks.due("putRow(" + s + ", " + (s + 1) + ")", x.putRow(s, s + 1), s + 1);
            x.write(s, s, 100 + s);
        }
        for (int s = 0; s < 8; s++) {
            Checks.due("read(" + s + ", " + s + ")", x.read(s, s), 100 + s);
        }
        x.putSentence(0, 0, 0);
        x.putJoint(7, 0);
        x.clear(3);
        int[] want = {1, 3, 3, 0, 3, 3, 3, 2};
        for (int s = 0; s < 8; s++) {
            Checks.due("sort(" + s + ")", x.sort(s), want[s]);
        }
    }

    private static void eachCode() {
        Checks.says("Section 5", "1 nothing is there; 2 it is of another sort; 3 no such place; 4 a number of places below "
            + "0; 6 divided by 0; 0 otherwise.");
        SideBySide x = desk();
        Checks.due("at first, behind write()", x.code(), 0);
        dueCode("nothing is there", x, x.read(4, 0), 1);
        dueCode("it is of another sort", x, x.read(0, 0), 2);
        dueCode("no such place", x, x.read(2, 4), 3);
        dueCode("a number of places below 0", x, x.putRow(2, -1), 4);
        dueCode("divided by 0", x, x.rate(3), 6);
        Checks.due("otherwise", x.read(2, 1), 7);
        Checks.due("otherwise: code()", x.code(), 0);
    }

    /** The desk as it is, behind another call that has met that CODE already. */
    private static Consumer<SideBySide> laidBehind(int code) {
        return x -> {
            laid(x);
            if (code == 1) {
                x.read(7, 0);
            } else if (code == 2) {
                x.read(1, 0);
            } else if (code == 3) {
                x.read(2, 9);
            } else if (code == 4) {
                x.putRow(7, -9);
            } else {
                x.rate(3);
            }
            Checks.due("code() ahead of it", x.code(), code);
        };
    }

    private static void unchanged(String call, ToIntFunction<SideBySide> it, int code) {
        State.dueUnchanged(call, laidBehind(code), it, 0);
        SideBySide x = desk();
        dueCode(call, x, it.applyAsInt(x), code);
    }

    private static void codeChangesNothing() {
        Checks.says("Section 5", UNCHANGED);
        unchanged("write(4, 0, 1)", x -> x.write(4, 0, 1), 1);
        unchanged("write(0, 0, 1)", x -> x.write(0, 0, 1), 2);
        unchanged("write(1, 0, 1)", x -> x.write(1, 0, 1), 2);
        unchanged("write(2, 4, 1)", x -> x.write(2, 4, 1), 3);
        unchanged("write(2, -1, 1)", x -> x.write(2, -1, 1), 3);
        unchanged("read(4, 0)", x -> x.read(4, 0), 1);
        unchanged("read(0, 0)", x -> x.read(0, 0), 2);
        unchanged("read(2, -1)", x -> x.read(2, -1), 3);
        unchanged("putRow(0, -1)", x -> x.putRow(0, -1), 4);
        unchanged("putRow(2, -1)", x -> x.putRow(2, -1), 4);
        unchanged("putRow(4, MIN)", x -> x.putRow(4, Integer.MIN_VALUE), 4);
        unchanged("spell(4, 2, 0)", x -> x.spell(4, 2, 0), 1);
        unchanged("spell(1, 2, 0)", x -> x.spell(1, 2, 0), 2);
        unchanged("spell(0, 4, 0)", x -> x.spell(0, 4, 0), 1);
        unchanged("spell(0, 1, 0)", x -> x.spell(0, 1, 0), 2);
        unchanged("spell(0, 2, 4), no place", x -> x.spell(0, 2, 4), 3);
        unchanged("spell(0, 2, -1), no place", x -> x.spell(0, 2, -1), 3);
        unchanged("rate(4)", x -> x.rate(4), 1);
        unchanged("rate(0)", x -> x.rate(0), 2);
        unchanged("rate(2)", x -> x.rate(2), 2);
    }

    private static void divisionChangesNothing() {
        Checks.says("Section 5", UNCHANGED);
        unchanged("rate(3)", x -> x.rate(3), 6);
    }

    private static void refusalsLeaveCode() {
        Checks.says("Section 5", "REFUSALS leave CODE as it was.");
        for (int code : new int[] {1, 2, 3, 4, 6}) {
            SideBySide x = new SideBySide();
            laidBehind(code).accept(x);
            Checks.due("putRow(8, 1)", x.putRow(8, 1), Checks.UNKNOWN);
            Checks.due("putRow(2, 31)", x.putRow(2, 31), Checks.OUTSIDE);
            Checks.due("write(-1, 0, 0)", x.write(-1, 0, 0), Checks.UNKNOWN);
            Checks.due("read(8, 0)", x.read(8, 0), Checks.UNKNOWN);
            Checks.due("spell(0, 8, 0)", x.spell(0, 8, 0), Checks.UNKNOWN);
            Checks.due("spell(-1, 2, 0)", x.spell(-1, 2, 0), Checks.UNKNOWN);
            Checks.due("rate(8)", x.rate(8), Checks.UNKNOWN);
            Checks.due("code()", x.code(), code);
        }
        SideBySide x = desk();
        x.putRow(8, -1);
        x.read(-1, -1);
        x.rate(8);
        Checks.due("code() 0", x.code(), 0);
    }

    private static void staysAsItWasLaid() {
        Checks.says("Section 5", "(What lies on THE DESK stays as it was laid.)");
        SideBySide x = desk();
        int rate = x.rate(1);
        x.change(0, 0, 0, 1);
        x.term(0, 0);
        x.rounds(2);
        x.fast(0, 1);
        Checks.book(x, 0, "");
        Checks.book(x, 1, "");
        Checks.due("the joint", x.rate(1), rate);
        Checks.due("the row", x.read(2, 1), 7);
        Checks.due("the sentence", x.spell(0, 2, 0), 3);
        dueRow(x, 2, "the sentence", 0, 1, 0, 0);
        dueCode("a joint without left words", x, x.rate(3), 6);
    }

    // ---- promises 28 to 32

    private static void putSentenceBounds() {
        Checks.says("Promise 28", "SLOT s gets SENTENCE i of BOOK b: 1. UNKNOWN.");
        SideBySide x = Checks.books("a.".repeat(20), "u.v");
        Checks.bounds("putSentence(s, 0, 0)", s -> x.putSentence(s, 0, 0), 0, 7, Checks.UNKNOWN);
        Checks.bounds("putSentence(0, b, 1)", b -> x.putSentence(0, b, 1), 0, 1, Checks.UNKNOWN);
        Checks.bounds("putSentence(0, 0, i)", i -> x.putSentence(0, 0, i), 0, 19, Checks.UNKNOWN);
        Checks.bounds("putSentence(0, 1, i)", i -> x.putSentence(0, 1, i), 0, 1, Checks.UNKNOWN);
        SideBySide empty = new SideBySide();
        Checks.due("putSentence(0, 0, 0) of none", empty.putSentence(0, 0, 0), Checks.UNKNOWN);
        Checks.due("putSentence(0, 1, 0) of none", empty.putSentence(0, 1, 0), Checks.UNKNOWN);
        Checks.due("nothing is there", empty.sort(0), 0);
    }

    private static void putSentenceLeastAndGreatest() {
        Checks.says("Promise 28", "SLOT s gets SENTENCE i of BOOK b: 1.");
        SideBySide x = Checks.books("a. b c d e f g h i j k", "u. v");
        x.putRow(7, 30);
        Checks.due("a sentence of one word", x.putSentence(0, 0, 0), 1);
        Checks.due("its words", x.spell(0, 7, 0), 1);
        Checks.due("a sentence of ten words, in its place", x.putSentence(0, 0, 1), 1);
        Checks.due("its words", x.spell(0, 7, 0), 10);
        Checks.due("its last word", x.read(7, 9), 10);
        Checks.due("one of the right book, in its place", x.putSentence(0, 1, 1), 1);
        Checks.due("its words", x.spell(0, 7, 0), 1);
        Checks.due("its word", x.read(7, 0), 1);
    }

    private static void putJointBounds() {
        Checks.says("Promise 29", "SLOT s gets JOINT k of THE BEST: 1. UNKNOWN.");
        SideBySide x = Checks.books("a.".repeat(20), "");
        Checks.bounds("putJoint(s, 0)", s -> x.putJoint(s, 0), 0, 7, Checks.UNKNOWN);
        Checks.bounds("putJoint(0, k)", k -> x.putJoint(0, k), 0, 19, Checks.UNKNOWN);
        SideBySide empty = new SideBySide();
        Checks.due("putJoint(0, 0) of none", empty.putJoint(0, 0), Checks.UNKNOWN);
        Checks.due("nothing is there", empty.sort(0), 0);
        SideBySide noWay = Checks.withoutWay();
        Checks.due("putJoint(0, 0) without a way", noWay.putJoint(0, 0), Checks.UNKNOWN);
    }

    private static void putJointInPlace() {
        Checks.says("Promise 29", "SLOT s gets JOINT k of THE BEST: 1.");
        SideBySide x = Checks.books("a b. c", "");
        x.putRow(0, 3);
        Checks.due("in place of a row", x.putJoint(0, 0), 1);
        Checks.due("sort(0)", x.sort(0), 2);
        Checks.due("450 for two words", x.rate(0), 22500);
        Checks.due("in place of a joint", x.putJoint(0, 1), 1);
        Checks.due("450 for one word", x.rate(0), 45000);
    }

    private static void putRowBounds() {
        Checks.says("Promise 30", "UNKNOWN; OUTSIDE: above 30.");
        SideBySide x = new SideBySide();
        Checks.bounds("putRow(s, 1)", s -> x.putRow(s, 1), 0, 7, Checks.UNKNOWN);
        Checks.due("putRow(0, 29)", x.putRow(0, 29), 29);
        Checks.due("putRow(0, 30)", x.putRow(0, 30), 30);
        Checks.due("putRow(0, 31)", x.putRow(0, 31), Checks.OUTSIDE);
        Checks.due("putRow(0, MAX)", x.putRow(0, Integer.MAX_VALUE), Checks.OUTSIDE);
        x.read(0, 29);
        Checks.due("place 29 is there", x.code(), 0);
        x.read(0, 30);
        Checks.due("place 30 is not", x.code(), 3);
    }

    private static void putRowBelowZero() {
        Checks.says("Promise 30", "CODE 4.");
        SideBySide x = new SideBySide();
        for (int n : new int[] {-1, -2, Integer.MIN_VALUE}) {
            x.putRow(0, 2);
            Checks.due("code() ahead of it", x.code(), 0);
            dueCode("putRow(0, " + n + ")", x, x.putRow(0, n), 4);
            Checks.due("the row stays", x.read(0, 1), 0);
            Checks.due("the row stays: code()", x.code(), 0);
        }
        dueCode("putRow(1, -1) where nothing is", x, x.putRow(1, -1), 4);
        Checks.due("nothing is there still", x.sort(1), 0);
        Checks.due("putRow(1, 0)", x.putRow(1, 0), 0);
        Checks.due("putRow(1, 0): code()", x.code(), 0);
        Checks.due("a row of no places is a row", x.sort(1), 3);
        dueCode("it has no place 0", x, x.read(1, 0), 3);
    }

    private static void putRowAllZero() {
        Checks.says("Promise 30", "SLOT s gets a ROW of n places, all 0: n.");
        SideBySide x = two();
        x.putRow(0, 30);
        for (int i = 0; i < 30; i++) {
            x.write(0, i, i + 1);
        }
        x.putRow(0, 1);
        dueRow(x, 0, "a short one behind it", 0);
        x.putRow(0, 30);
        dueRow(x, 0, "a long one behind that", new int[30]);
        x.putSentence(0, 1, 1);
        x.putRow(0, 3);
        dueRow(x, 0, "one in place of a sentence", 0, 0, 0);
    }

    private static void clearBounds() {
        Checks.says("Promise 31", "UNKNOWN.");
        SideBySide x = new SideBySide();
        Checks.bounds("clear()", x::clear, 0, 7, Checks.UNKNOWN);
    }

    private static void clearSomethingOrNothing() {
        Checks.says("Promise 31", "SLOT s has nothing then: 1, if it had something, 0.");
        SideBySide x = desk();
        x.putRow(4, 0);
        int[] had = {1, 1, 1, 1, 1, 0, 0, 0};
        for (int s = 0; s < 8; s++) {
            Checks.due("clear(" + s + ")", x.clear(s), had[s]);
            Checks.due("clear(" + s + ") again", x.clear(s), 0);
            Checks.due("sort(" + s + ")", x.sort(s), 0);
            dueCode("read(" + s + ", 0)", x, x.read(s, 0), 1);
        }
    }

    private static void sortBounds() {
        Checks.says("Promise 32", "What SLOT s has: 0 nothing, 1 a SENTENCE, 2 a JOINT, 3 a ROW. UNKNOWN.");
        SideBySide x = desk();
        Checks.bounds("sort()", x::sort, 0, 7, Checks.UNKNOWN);
        int[] want = {1, 2, 3, 2, 0, 0, 0, 0};
        for (int s = 0; s < 8; s++) {
            Checks.due("sort(" + s + ")", x.sort(s), want[s]);
        }
    }

    // ---- promises 33 to 37

    private static void writeBounds() {
        Checks.says("Promise 33", "UNKNOWN.");
        SideBySide x = new SideBySide();
        Checks.bounds("write(s, 0, 1)", s -> x.write(s, 0, 1), 0, 7, Checks.UNKNOWN);
    }

    private static void writeAnyNumber() {
        Checks.says("Promise 33", "Place i of the ROW of SLOT s becomes v: what it was.");
        SideBySide x = new SideBySide();
        x.putRow(7, 30);
        int was = 0;
        for (int v : new int[] {Integer.MIN_VALUE, Integer.MAX_VALUE, -1, 0, Checks.UNKNOWN, Checks.FULL, 1}) {
            Checks.due("write(7, 29, " + v + ")", x.write(7, 29, v), was);
            Checks.due("code()", x.code(), 0);
            was = v;
        }
        Checks.due("the place ahead", x.read(7, 28), 0);
        Checks.due("write(7, 0, 5)", x.write(7, 0, 5), 0);
        Checks.due("the last place", x.read(7, 29), 1);
        Checks.due("the first place", x.read(7, 0), 5);
    }

    private static void writeCodes() {
        Checks.says("Promise 33", "CODES 1, 2, 3, in this order.");
        SideBySide x = desk();
        for (int i : new int[] {0, 3, 4, -1, Integer.MIN_VALUE, Integer.MAX_VALUE}) {
            dueCode("write(4, " + i + ", 9)", x, x.write(4, i, 9), 1);
            dueCode("write(0, " + i + ", 9)", x, x.write(0, i, 9), 2);
            dueCode("write(1, " + i + ", 9)", x, x.write(1, i, 9), 2);
        }
        for (int i : new int[] {4, 30, -1, Integer.MIN_VALUE, Integer.MAX_VALUE}) {
            dueCode("write(2, " + i + ", 9)", x, x.write(2, i, 9), 3);
        }
        dueRow(x, 2, "the row stays", 0, 7, 0, 0);
        x.write(2, 9, 9);
        Checks.due("write(2, 3, 9)", x.write(2, 3, 9), 0);
        Checks.due("the last place: code()", x.code(), 0);
    }

    private static void readBounds() {
        Checks.says("Promise 34", "UNKNOWN.");
        SideBySide x = new SideBySide();
        Checks.bounds("read(s, 0)", s -> x.read(s, 0), 0, 7, Checks.UNKNOWN);
    }

    private static void readCodes() {
        Checks.says("Promise 34", "CODES 1, 2, 3.");
        SideBySide x = desk();
        for (int i : new int[] {0, 3, 4, -1, Integer.MIN_VALUE, Integer.MAX_VALUE}) {
            dueCode("read(4, " + i + ")", x, x.read(4, i), 1);
            dueCode("read(0, " + i + ")", x, x.read(0, i), 2);
            dueCode("read(1, " + i + ")", x, x.read(1, i), 2);
        }
        for (int i : new int[] {4, 30, -1, Integer.MIN_VALUE, Integer.MAX_VALUE}) {
            dueCode("read(2, " + i + ")", x, x.read(2, i), 3);
        }
        dueRow(x, 2, "each place", 0, 7, 0, 0);
    }

    private static void spellBounds() {
        Checks.says("Promise 35", "UNKNOWN.");
        SideBySide x = desk();
        Checks.bounds("spell(s, 2, 0)", s -> x.spell(s, 2, 0), 0, 7, Checks.UNKNOWN);
        Checks.bounds("spell(0, r, 0)", r -> x.spell(0, r, 0), 0, 7, Checks.UNKNOWN);
        Checks.due("spell(8, -1, 0)", x.spell(8, -1, 0), Checks.UNKNOWN);
    }

    private static void spellCodes() {
        Checks.says("Promise 35", "CODES, in this order: 1 (SLOT s), 2 (it), 1 (SLOT r), 2 (it); 3");
        SideBySide x = desk();
        int[][] codes = {{4, 2, 0, 1}, {4, 4, 0, 1}, {4, 0, 9, 1}, {4, 1, 0, 1}, {1, 2, 0, 2}, {2, 2, 0, 2}, {1, 4, 0, 2},
            {2, 4, 9, 2}, {0, 4, 0, 1}, {0, 4, 9, 1}, {0, 0, 0, 2}, {0, 1, 0, 2}, {0, 1, 9, 2}, {0, 2, 2, 3}, {0, 2, 9, 3}};
        for (int[] c : codes) {
            x.putRow(7, 0);
            Checks.due("code() ahead of it", x.code(), 0);
            dueCode("spell(" + c[0] + ", " + c[1] + ", " + c[2] + ")", x, x.spell(c[0], c[1], c[2]), c[3]);
        }
        Checks.due("spell(0, 2, 1)", x.spell(0, 2, 1), 3);
        Checks.due("spell(0, 2, 1): code()", x.code(), 0);
    }

    /** A row of so many places, all 9, in slot 2, beside the sentence of kinds 0, 1, 0 in slot 0. */
    private static SideBySide withNines(int places) {
        SideBySide x = desk();
        x.putRow(2, places);
        for (int i = 0; i < places; i++) {
            x.write(2, i, 9);
        }
        return x;
    }

    private static void spellWhatFits() {
        Checks.says("Promise 35", "3: not so many places from i on: those that are there (none, if i is no place of it) have "
            + "been written.");
        SideBySide x = withNines(3);
        Checks.due("just as many", x.spell(0, 2, 0), 3);
        Checks.due("just as many: code()", x.code(), 0);
        dueRow(x, 2, "just as many", 0, 1, 0);
        x = withNines(3);
        dueCode("two places", x, x.spell(0, 2, 1), 3);
        dueRow(x, 2, "two places", 9, 0, 1);
        x = withNines(3);
        dueCode("one place", x, x.spell(0, 2, 2), 3);
        dueRow(x, 2, "one place", 9, 9, 0);
        x = withNines(5);
        Checks.due("in the midst", x.spell(0, 2, 1), 3);
        dueRow(x, 2, "in the midst", 9, 0, 1, 0, 9);
        SideBySide y = Checks.books("b c d e f g h i j k", "");
        y.putSentence(0, 0, 0);
        y.putRow(2, 30);
        Checks.due("ten words, the last ten places", y.spell(0, 2, 20), 10);
        Checks.due("ten words, the last place", y.read(2, 29), 9);
        y.putRow(2, 30);
        dueCode("ten words, nine places", y, y.spell(0, 2, 21), 3);
        Checks.due("ten words, the ninth", y.read(2, 29), 8);
        Checks.due("ten words, the first", y.read(2, 22), 1);
    }

    private static void spellAtNoPlace() {
        Checks.says("Promise 35", "(none, if i is no place of it)");
        for (int i : new int[] {3, 4, 30, -1, -2, -3, Integer.MIN_VALUE, Integer.MAX_VALUE}) {
            SideBySide x = withNines(3);
            dueCode("spell(0, 2, " + i + ")", x, x.spell(0, 2, i), 3);
            dueRow(x, 2, "spell(0, 2, " + i + ")", 9, 9, 9);
        }
        for (int i : new int[] {3, -1, Integer.MAX_VALUE}) {
            SideBySide one = withNines(3);
            one.putSentence(0, 0, 1);
            dueCode("one word, spell(0, 2, " + i + ")", one, one.spell(0, 2, i), 3);
            dueRow(one, 2, "one word, spell(0, 2, " + i + ")", 9, 9, 9);
        }
        SideBySide none = withNines(0);
        dueCode("a row of no places", none, none.spell(0, 2, 0), 3);
    }

    private static void spellAsItWasLaid() {
        Checks.says("Promise 35", "come the KINDS of the WORDS of the SENTENCE of SLOT s, as they were when it was laid: how "
            + "many.");
        SideBySide x = withNines(3);
        x.change(0, 0, 0, 2);
        Checks.due("behind change()", x.spell(0, 2, 0), 3);
        dueRow(x, 2, "behind change()", 0, 1, 0);
        x.putSentence(0, 0, 0);
        Checks.due("laid anew", x.spell(0, 2, 0), 3);
        dueRow(x, 2, "laid anew", 2, 1, 0);
    }

    private static void rateBounds() {
        Checks.says("Promise 36", "UNKNOWN.");
        SideBySide x = new SideBySide();
        Checks.bounds("rate()", x::rate, 0, 7, Checks.UNKNOWN);
    }

    private static void rateCodes() {
        Checks.says("Promise 36", "CODES 1, 2, 6.");
        SideBySide x = desk();
        dueCode("nothing", x, x.rate(4), 1);
        dueCode("a sentence", x, x.rate(0), 2);
        dueCode("a row", x, x.rate(2), 2);
        dueCode("a joint without left words", x, x.rate(3), 6);
        x.clear(3);
        dueCode("which is gone", x, x.rate(3), 1);
        x.rate(1);
        Checks.due("a joint: code()", x.code(), 0);
    }

    private static int rateOf(String left, String right, int terms) {
        SideBySide x = Checks.books(left, right);
        for (int a = 0; a < terms; a++) {
            x.term(a, 0);
        }
        Checks.due("one joint", x.lay(), 1);
        x.putJoint(0, 0);
        return x.rate(0);
    }

    private static void rateTowardsZero() {
        Checks.says("Promise 36", "100 times the PRICE / these WORDS.");
        Checks.due("0 for one word", rateOf("a", "u", 0), 0);
        Checks.due("450 for one word", rateOf("a", "", 0), 45000);
        Checks.due("450 for seven words", rateOf("a a a a a a a", "", 0), 6428);
        Checks.due("450 for ten words", rateOf("a a a a a a a a a a", "", 0), 4500);
        Checks.due("-15 for two words", rateOf("a b", "u", 1), -750);
        Checks.due("-30 for seven words: -428.6", rateOf("a b c c c c c", "u", 2), -428);
        Checks.due("-90 for seven words: -1285.7", rateOf("a a a a a a a", "u", 1), -1285);
        Checks.due("230 for twenty words", rateOf("c c c c c c c c c c. c c c c c c c c c c", "u", 0), 1150);
    }

    private static void codeOfTheLatest() {
        Checks.says("Promise 37", "CODE of the latest call that names CODES and was not refused.");
        SideBySide x = desk();
        x.rate(3);
        x.putSentence(5, 0, 0);
        x.putSentence(5, 9, 0);
        x.putJoint(6, 0);
        x.putJoint(6, 99);
        x.clear(5);
        x.clear(9);
        x.sort(5);
        x.sort(9);
        Checks.due("the desk's calls that name none leave it", x.code(), 6);
        x.feed(0, 0, 0, 0, 0);
        x.cut(0);
        x.cut(1);
        x.abbreviate();
        x.count(0, 0);
        x.sentence(0, 0, 0);
        x.word(0, 0, 0);
        x.letter(0, 0, 0);
        x.change(0, 0, 0, 0);
        x.fast(0, 0);
        x.loosen(0);
        x.keep(false);
        Checks.due("books' calls leave it", x.code(), 6);
        x.lay();
        x.joint(0, 0);
        x.price(0, 0, 0);
        x.rest(0, 0);
        x.second();
        x.sure(0, 0);
        x.rounds(1);
        x.share(0, 0);
        x.partner(0, 0);
        x.term(0, 0);
        x.broken();
        x.link(0, 0, 0);
        x.linked(0, 0, 0, 0);
        x.phrases(0);
        x.take(0);
        Checks.due("laying, shares, links leave it", x.code(), 6);
        Checks.due("code() itself leaves it", x.code(), 6);
        x.putRow(7, 0);
        Checks.due("putRow() that is well", x.code(), 0);
        x.rate(3);
        x.read(2, 0);
        Checks.due("read() that is well", x.code(), 0);
        x.rate(3);
        x.write(2, 0, 1);
        Checks.due("write() that is well", x.code(), 0);
        x.rate(3);
        x.spell(0, 2, 0);
        Checks.due("spell() that is well", x.code(), 0);
        x.rate(3);
        x.rate(1);
        Checks.due("rate() that is well", x.code(), 0);
    }
}
