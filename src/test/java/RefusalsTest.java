import java.util.function.Consumer;
import java.util.function.ToIntFunction;

/** The order in which refusals go, and that what is refused changes nothing: each refusal that a promise names. */
public final class RefusalsTest {
    private static final String NOTHING = "What is refused changes nothing.";
    private static final String ORDER = "REFUSALS, of several the first in this order: UNKNOWN (a BOOK, SENTENCE, WORD, "
        + "JOINT, SLOT that there is not), OUTSIDE (another number out of its bounds), NOT (not now, as told), FULL.";

    public static void main(String[] args) {
        Checks.says("Terms", NOTHING);
        feedAndCut();
        abbreviate();
        take();
        books();
        words();
        fastAndLoosen();
        joints();
        placesAndWays();
        shares();
        linksOfWords();
        linksWithoutBothSides();
        desk();
        rows();
        Checks.says("Terms", ORDER);
        orderInBooks();
        orderInLaying();
        orderInSharesAndLinks();
        orderAtTheDesk();
        Checks.end();
    }

    /** Something of each sort is there, so that whatever a refused call may change can be seen. */
    private static void rich(SideBySide x) {
        Checks.shortForm(x, "mr");
        Checks.book(x, 0, "ab c. d ab.\ne");
        Checks.book(x, 1, "u vv. w.\nx u");
        x.keep(true);
        x.fast(0, 0);
        x.term(1, 2);
        x.rounds(1);
        x.term(3, 1);
        x.putSentence(0, 0, 1);
        x.putJoint(1, 0);
        x.putRow(2, 4);
        x.write(2, 1, 7);
        Checks.type(x, "q mr. r");
        x.read(2, 4);
    }

    private static Consumer<SideBySide> richWith(Consumer<SideBySide> more) {
        return x -> {
            rich(x);
            more.accept(x);
        };
    }

    private static Consumer<SideBySide> richWithTape(String text) {
        return richWith(x -> {
            x.cut(0);
            Checks.type(x, text);
        });
    }

    private static void withSixShortForms(SideBySide x, String tape) {
        for (String form : new String[] {"mr", "dr", "st", "ca", "vs", "ed"}) {
            Checks.shortForm(x, form);
        }
        Checks.type(x, tape);
    }

    /** The pair that is told lies in two paragraphs that no joint may join. */
    private static void withoutWay(SideBySide x) {
        Checks.book(x, 0, "a\nb");
        Checks.book(x, 1, "u\nv");
        x.keep(true);
        x.fast(0, 1);
        x.putRow(0, -1);
    }

    private static void leftAlone(SideBySide x) {
        Checks.book(x, 0, "a b. c");
        x.putRow(0, -1);
    }

    private static void rightAlone(SideBySide x) {
        Checks.book(x, 1, "u v. w");
        x.putRow(0, -1);
    }

    private static void refused(String call, ToIntFunction<SideBySide> it, int want) {
        State.dueUnchanged(call, RefusalsTest::rich, it, want);
    }

    // ---- what is refused changes nothing

    private static void feedAndCut() {
        Consumer<SideBySide> full = richWithTape("a ".repeat(5) + " ".repeat(1590));
        State.dueUnchanged("feed() onto 1600 bytes", full, x -> x.feed(1, 2, 3, 4, 5), Checks.FULL);
        Consumer<SideBySide> nearlyFull = richWithTape("a ".repeat(5) + " ".repeat(1571));
        State.dueUnchanged("feed() onto 1581 bytes", nearlyFull, x -> x.feed(1, 2, 3, 4, 5), Checks.FULL);
        refused("cut(-1)", x -> x.cut(-1), Checks.OUTSIDE);
        refused("cut(8) of 7 bytes", x -> x.cut(8), Checks.OUTSIDE);
    }

    private static void abbreviate() {
        State.dueUnchanged("abbreviate(), no byte", richWithTape(""), SideBySide::abbreviate, Checks.NOT);
        State.dueUnchanged("abbreviate(), no word", richWithTape(" .\n"), SideBySide::abbreviate, Checks.NOT);
        State.dueUnchanged("abbreviate(), two words", richWithTape("dr st"), SideBySide::abbreviate, Checks.NOT);
        State.dueUnchanged("abbreviate(), a seventh", x -> withSixShortForms(x, "seven"), SideBySide::abbreviate,
            Checks.FULL);
    }

    private static void take() {
        refused("take(-1)", x -> x.take(-1), Checks.UNKNOWN);
        refused("take(2)", x -> x.take(2), Checks.UNKNOWN);
        for (String text : new String[] {"b.".repeat(21), "b ".repeat(11), Checks.unlikeWords(41, 10)}) {
            State.dueUnchanged("take(0) of " + text, richWithTape(text), x -> x.take(0), Checks.FULL);
            State.dueUnchanged("take(1) of " + text, richWithTape(text), x -> x.take(1), Checks.FULL);
        }
    }

    private static void books() {
        for (int b : new int[] {-1, 2}) {
            refused("count(" + b + ", 0)", x -> x.count(b, 0), Checks.UNKNOWN);
            refused("sentence(" + b + ", 0, 0)", x -> x.sentence(b, 0, 0), Checks.UNKNOWN);
            refused("word(" + b + ", 0, 0)", x -> x.word(b, 0, 0), Checks.UNKNOWN);
            refused("letter(" + b + ", 0, 0)", x -> x.letter(b, 0, 0), Checks.UNKNOWN);
            refused("change(" + b + ", 0, 0, 1)", x -> x.change(b, 0, 0, 1), Checks.UNKNOWN);
        }
        refused("count(0, -1)", x -> x.count(0, -1), Checks.OUTSIDE);
        refused("count(0, 5)", x -> x.count(0, 5), Checks.OUTSIDE);
        refused("sentence(0, 0, -1)", x -> x.sentence(0, 0, -1), Checks.OUTSIDE);
        refused("sentence(0, 0, 3)", x -> x.sentence(0, 0, 3), Checks.OUTSIDE);
    }

    private static void words() {
        for (int s : new int[] {-1, 3}) {
            refused("sentence(0, " + s + ", 0)", x -> x.sentence(0, s, 0), Checks.UNKNOWN);
            refused("word(0, " + s + ", 0)", x -> x.word(0, s, 0), Checks.UNKNOWN);
            refused("change(0, " + s + ", 0, 1)", x -> x.change(0, s, 0, 1), Checks.UNKNOWN);
        }
        for (int w : new int[] {-1, 2}) {
            refused("word(0, 0, " + w + ")", x -> x.word(0, 0, w), Checks.UNKNOWN);
            refused("change(0, 0, " + w + ", 2)", x -> x.change(0, 0, w, 2), Checks.UNKNOWN);
        }
        for (int k : new int[] {-1, 4}) {
            refused("letter(0, " + k + ", 0)", x -> x.letter(0, k, 0), Checks.UNKNOWN);
            refused("change(0, 0, 0, " + k + ")", x -> x.change(0, 0, 0, k), Checks.UNKNOWN);
        }
    }

    private static void fastAndLoosen() {
        for (int n : new int[] {-1, 3}) {
            refused("fast(" + n + ", 1)", x -> x.fast(n, 1), Checks.UNKNOWN);
            refused("fast(1, " + n + ")", x -> x.fast(1, n), Checks.UNKNOWN);
            refused("loosen(" + n + ")", x -> x.loosen(n), Checks.UNKNOWN);
        }
        refused("fast(0, 1), 0 is fast", x -> x.fast(0, 1), Checks.NOT);
        refused("fast(1, 0), 0 is fast", x -> x.fast(1, 0), Checks.NOT);
        Consumer<SideBySide> farPair = richWith(x -> {
            x.loosen(0);
            x.fast(0, 2);
        });
        State.dueUnchanged("fast(1, 0), across", farPair, x -> x.fast(1, 0), Checks.NOT);
        State.dueUnchanged("fast(2, 1), across", farPair, x -> x.fast(2, 1), Checks.NOT);
    }

    private static void joints() {
        for (int k : new int[] {-1, 3}) {
            refused("joint(" + k + ", 0)", x -> x.joint(k, 0), Checks.UNKNOWN);
            refused("sure(" + k + ", 0)", x -> x.sure(k, 0), Checks.UNKNOWN);
        }
        refused("joint(0, -1)", x -> x.joint(0, -1), Checks.OUTSIDE);
        refused("joint(0, 4)", x -> x.joint(0, 4), Checks.OUTSIDE);
        refused("sure(0, -1)", x -> x.sure(0, -1), Checks.OUTSIDE);
        refused("sure(0, 10001)", x -> x.sure(0, 10001), Checks.OUTSIDE);
    }

    private static void placesAndWays() {
        refused("price(-1, 0, 0)", x -> x.price(-1, 0, 0), Checks.OUTSIDE);
        refused("price(7, 0, 0)", x -> x.price(7, 0, 0), Checks.OUTSIDE);
        for (int n : new int[] {-1, 3}) {
            refused("price(0, " + n + ", 0)", x -> x.price(0, n, 0), Checks.UNKNOWN);
            refused("price(0, 0, " + n + ")", x -> x.price(0, 0, n), Checks.UNKNOWN);
        }
        for (int n : new int[] {-1, 4}) {
            refused("rest(" + n + ", 0)", x -> x.rest(n, 0), Checks.UNKNOWN);
            refused("rest(0, " + n + ")", x -> x.rest(0, n), Checks.UNKNOWN);
        }
        refused("rest(3, 0)", x -> x.rest(3, 0), Checks.NOT);
        State.dueUnchanged("rest(0, 0) without a way", RefusalsTest::withoutWay, x -> x.rest(0, 0), Checks.NOT);
        State.dueUnchanged("second() without a way", RefusalsTest::withoutWay, SideBySide::second, Checks.NOT);
        State.dueUnchanged("second() of one way", RefusalsTest::leftAlone, SideBySide::second, Checks.NOT);
    }

    private static void shares() {
        refused("rounds(-1)", x -> x.rounds(-1), Checks.OUTSIDE);
        refused("rounds(11)", x -> x.rounds(11), Checks.OUTSIDE);
        for (int a : new int[] {-1, 4}) {
            refused("share(" + a + ", 0)", x -> x.share(a, 0), Checks.UNKNOWN);
            refused("partner(" + a + ", 0)", x -> x.partner(a, 0), Checks.UNKNOWN);
            refused("term(" + a + ", 0)", x -> x.term(a, 0), Checks.UNKNOWN);
        }
        refused("share(0, -2)", x -> x.share(0, -2), Checks.UNKNOWN);
        refused("share(0, 4)", x -> x.share(0, 4), Checks.UNKNOWN);
        refused("partner(0, -1)", x -> x.partner(0, -1), Checks.OUTSIDE);
        refused("partner(0, 3)", x -> x.partner(0, 3), Checks.OUTSIDE);
        refused("term(0, -1)", x -> x.term(0, -1), Checks.UNKNOWN);
        refused("term(0, 4)", x -> x.term(0, 4), Checks.UNKNOWN);
        refused("term(1, 4), 1 has a term", x -> x.term(1, 4), Checks.UNKNOWN);
    }

    private static void linksOfWords() {
        for (int k : new int[] {-1, 3}) {
            refused("link(" + k + ", 0, 0)", x -> x.link(k, 0, 0), Checks.UNKNOWN);
            refused("linked(" + k + ", 0, 0, 0)", x -> x.linked(k, 0, 0, 0), Checks.UNKNOWN);
            refused("phrases(" + k + ")", x -> x.phrases(k), Checks.UNKNOWN);
        }
        for (int w : new int[] {-1, 2}) {
            refused("link(0, 0, " + w + ")", x -> x.link(0, 0, w), Checks.UNKNOWN);
            refused("link(0, 1, " + w + ")", x -> x.link(0, 1, w), Checks.UNKNOWN);
            refused("link(0, " + w + ", 0)", x -> x.link(0, w, 0), Checks.OUTSIDE);
            refused("linked(0, 0, " + w + ", 0)", x -> x.linked(0, 0, w, 0), Checks.UNKNOWN);
            refused("linked(0, 0, 0, " + w + ")", x -> x.linked(0, 0, 0, w), Checks.UNKNOWN);
            refused("linked(0, " + w + ", 0, 0)", x -> x.linked(0, w, 0, 0), Checks.OUTSIDE);
        }
    }

    private static void linksWithoutBothSides() {
        State.dueUnchanged("link(0, 0, 0), left alone", RefusalsTest::leftAlone, x -> x.link(0, 0, 0), Checks.NOT);
        State.dueUnchanged("link(0, 1, 0), right alone", RefusalsTest::rightAlone, x -> x.link(0, 1, 0), Checks.NOT);
        State.dueUnchanged("phrases(0), left alone", RefusalsTest::leftAlone, x -> x.phrases(0), Checks.NOT);
        State.dueUnchanged("phrases(0), right alone", RefusalsTest::rightAlone, x -> x.phrases(0), Checks.NOT);
    }

    private static void desk() {
        for (int s : new int[] {-1, 8}) {
            refused("putSentence(" + s + ", 0, 0)", x -> x.putSentence(s, 0, 0), Checks.UNKNOWN);
            refused("putJoint(" + s + ", 0)", x -> x.putJoint(s, 0), Checks.UNKNOWN);
            refused("putRow(" + s + ", 1)", x -> x.putRow(s, 1), Checks.UNKNOWN);
            refused("clear(" + s + ")", x -> x.clear(s), Checks.UNKNOWN);
            refused("sort(" + s + ")", x -> x.sort(s), Checks.UNKNOWN);
            refused("rate(" + s + ")", x -> x.rate(s), Checks.UNKNOWN);
        }
        for (int b : new int[] {-1, 2}) {
            refused("putSentence(2, " + b + ", 0)", x -> x.putSentence(2, b, 0), Checks.UNKNOWN);
        }
        for (int n : new int[] {-1, 3}) {
            refused("putSentence(2, 0, " + n + ")", x -> x.putSentence(2, 0, n), Checks.UNKNOWN);
            refused("putJoint(2, " + n + ")", x -> x.putJoint(2, n), Checks.UNKNOWN);
        }
        State.dueUnchanged("putJoint(0, 0) without a way", RefusalsTest::withoutWay, x -> x.putJoint(0, 0), Checks.UNKNOWN);
    }

    private static void rows() {
        refused("putRow(2, 31)", x -> x.putRow(2, 31), Checks.OUTSIDE);
        for (int s : new int[] {-1, 8}) {
            refused("write(" + s + ", 0, 1)", x -> x.write(s, 0, 1), Checks.UNKNOWN);
            refused("read(" + s + ", 0)", x -> x.read(s, 0), Checks.UNKNOWN);
            refused("spell(" + s + ", 2, 0)", x -> x.spell(s, 2, 0), Checks.UNKNOWN);
            refused("spell(0, " + s + ", 0)", x -> x.spell(0, s, 0), Checks.UNKNOWN);
        }
    }

    // ---- of several refusals the first

    private static void orderInBooks() {
        Consumer<SideBySide> tooMuch = richWithTape("b ".repeat(11));
        State.dueUnchanged("take(2): UNKNOWN, FULL", tooMuch, x -> x.take(2), Checks.UNKNOWN);
        State.dueUnchanged("take(-1): UNKNOWN, FULL", tooMuch, x -> x.take(-1), Checks.UNKNOWN);
        State.dueUnchanged("abbreviate(), two words: NOT, FULL", x -> withSixShortForms(x, "a b"), SideBySide::abbreviate,
            Checks.NOT);
        State.dueUnchanged("abbreviate(), no word: NOT, FULL", x -> withSixShortForms(x, "."), SideBySide::abbreviate,
            Checks.NOT);
        refused("count(2, 5): UNKNOWN, OUTSIDE", x -> x.count(2, 5), Checks.UNKNOWN);
        refused("count(-1, -1): UNKNOWN, OUTSIDE", x -> x.count(-1, -1), Checks.UNKNOWN);
        refused("sentence(2, 0, 3): UNKNOWN, OUTSIDE", x -> x.sentence(2, 0, 3), Checks.UNKNOWN);
        refused("sentence(0, 3, 3): UNKNOWN, OUTSIDE", x -> x.sentence(0, 3, 3), Checks.UNKNOWN);
        refused("sentence(0, -1, -1): UNKNOWN, OUTSIDE", x -> x.sentence(0, -1, -1), Checks.UNKNOWN);
    }

    private static void orderInLaying() {
        refused("fast(0, 3): UNKNOWN, NOT", x -> x.fast(0, 3), Checks.UNKNOWN);
        refused("fast(3, 0): UNKNOWN, NOT", x -> x.fast(3, 0), Checks.UNKNOWN);
        refused("joint(3, 4): UNKNOWN, OUTSIDE", x -> x.joint(3, 4), Checks.UNKNOWN);
        refused("sure(3, 10001): UNKNOWN, OUTSIDE", x -> x.sure(3, 10001), Checks.UNKNOWN);
        refused("sure(-1, -1): UNKNOWN, OUTSIDE", x -> x.sure(-1, -1), Checks.UNKNOWN);
        State.dueUnchanged("rest(3, 0): UNKNOWN, NOT", RefusalsTest::withoutWay, x -> x.rest(3, 0), Checks.UNKNOWN);
        State.dueUnchanged("rest(0, -1): UNKNOWN, NOT", RefusalsTest::withoutWay, x -> x.rest(0, -1), Checks.UNKNOWN);
        refused("price(7, 9, 9): no KIND, so no SENTENCES", x -> x.price(7, 9, 9), Checks.OUTSIDE);
        SideBySide full = Checks.books("a.".repeat(20), "b.".repeat(20));
        for (int i = 0; i < 20; i++) {
            full.fast(i, i);
        }
        Checks.due("fast(20, 0) with 20 pairs: UNKNOWN, FULL", full.fast(20, 0), Checks.UNKNOWN);
        Checks.due("fast(0, 19) with 20 pairs: NOT, FULL", full.fast(0, 19), Checks.NOT);
    }

    private static void orderInSharesAndLinks() {
        refused("partner(4, 3): UNKNOWN, OUTSIDE", x -> x.partner(4, 3), Checks.UNKNOWN);
        refused("partner(-1, -1): UNKNOWN, OUTSIDE", x -> x.partner(-1, -1), Checks.UNKNOWN);
        refused("link(3, 2, 0): UNKNOWN, OUTSIDE", x -> x.link(3, 2, 0), Checks.UNKNOWN);
        refused("linked(3, 2, 0, 0): UNKNOWN, OUTSIDE", x -> x.linked(3, 2, 0, 0), Checks.UNKNOWN);
        refused("linked(0, 2, 2, 0): UNKNOWN, OUTSIDE", x -> x.linked(0, 2, 2, 0), Checks.UNKNOWN);
        refused("linked(0, -1, 0, -1): UNKNOWN, OUTSIDE", x -> x.linked(0, -1, 0, -1), Checks.UNKNOWN);
        SideBySide x = new SideBySide();
        leftAlone(x);
        Checks.due("left alone, link(0, 2, 0): OUTSIDE, NOT", x.link(0, 2, 0), Checks.OUTSIDE);
        Checks.due("left alone, link(0, 0, 2): UNKNOWN, NOT", x.link(0, 0, 2), Checks.UNKNOWN);
        Checks.due("left alone, link(0, 1, 0): UNKNOWN, NOT", x.link(0, 1, 0), Checks.UNKNOWN);
        Checks.due("left alone, linked(0, 0, 0, 0): UNKNOWN, NOT", x.linked(0, 0, 0, 0), Checks.UNKNOWN);
        Checks.due("left alone, linked(0, 2, 0, 0): UNKNOWN, OUTSIDE, NOT", x.linked(0, 2, 0, 0), Checks.UNKNOWN);
        SideBySide y = new SideBySide();
        rightAlone(y);
        Checks.due("right alone, link(0, -1, 0): OUTSIDE, NOT", y.link(0, -1, 0), Checks.OUTSIDE);
        Checks.due("right alone, link(0, 1, 2): UNKNOWN, NOT", y.link(0, 1, 2), Checks.UNKNOWN);
        Checks.due("right alone, link(0, 0, 0): UNKNOWN, NOT", y.link(0, 0, 0), Checks.UNKNOWN);
        Checks.due("right alone, linked(0, 0, 0, 0): UNKNOWN, NOT", y.linked(0, 0, 0, 0), Checks.UNKNOWN);
    }

    private static void orderAtTheDesk() {
        refused("putRow(8, 31): UNKNOWN, OUTSIDE", x -> x.putRow(8, 31), Checks.UNKNOWN);
        refused("putRow(-1, -1): UNKNOWN ahead of a CODE", x -> x.putRow(-1, -1), Checks.UNKNOWN);
        refused("write(8, -1, 1): UNKNOWN ahead of a CODE", x -> x.write(8, -1, 1), Checks.UNKNOWN);
        refused("read(8, -1): UNKNOWN ahead of a CODE", x -> x.read(8, -1), Checks.UNKNOWN);
        refused("spell(3, 8, 0): UNKNOWN ahead of a CODE", x -> x.spell(3, 8, 0), Checks.UNKNOWN);
        refused("spell(8, 3, 0): UNKNOWN ahead of a CODE", x -> x.spell(8, 3, 0), Checks.UNKNOWN);
    }
}
