/** Promises 20 to 24. */
public final class SharesTest {
    public static void main(String[] args) {
        evenShares();
        roundByHand();
        secondRoundByHand();
        roundLooksAtPricesAhead();
        oneSidedJointsDealNothing();
        fortyKinds();
        rounds();
        share();
        partner();
        term();
        termInRounds();
        broken();
        Checks.end();
    }

    private static void evenShares() {
        SideBySide x = Checks.books("a b", "u v. w u");
        Checks.due("even: share(0, 2)", x.share(0, 2), 262144);
        Checks.due("even: no word", x.share(1, -1), 262144);
        Checks.due("even: no loss", x.partner(0, 1), 0);
        Checks.due("even: no partner", x.partner(0, 0), Checks.NONE);
        SideBySide y = Checks.books("a", "u v");
        Checks.due("even of three", y.share(0, 0), 349525);
        Checks.due("even of three: loss", y.partner(0, 1), 1);
        SideBySide z = Checks.books("a", "");
        Checks.due("even: no word alone", z.share(0, -1), Checks.UNIT);
        Checks.due("even: no partner in an empty book", z.partner(0, 0), Checks.NONE);
    }

    private static void roundByHand() {
        SideBySide x = Checks.books("a b. a", "u v. u");
        Checks.due("rounds(1)", x.rounds(1), 1);
        // a is dealt thirds once (349525 each), then halves with u and NO WORD (524288 each): 2097151 in all.
        Checks.due("a with u", x.share(0, 0), 1048576L * 873813 / 2097151);
        Checks.due("a with v", x.share(0, 1), 1048576L * 349525 / 2097151);
        Checks.due("a with no word", x.share(0, -1), 436906);
        Checks.due("b with u", x.share(1, 0), 349525);
        Checks.due("loss of a", x.partner(0, 1), 1048576 - 436906 - 174762 - 436906);
        Checks.due("a: not above no word", x.partner(0, 0), Checks.NONE);
    }

    private static void secondRoundByHand() {
        // u stands twice, so that its share is dealt for each of both: thirds, then u has two of them.
        SideBySide x = Checks.books("a", "u u");
        x.rounds(1);
        long third = 1048576L * 524288 / 1572864;
        Checks.due("u twice", x.share(0, 0), 1048576L * (2 * third) / (3 * third));
        Checks.due("u twice: no word", x.share(0, -1), 1048576L / 3);
        Checks.due("u twice: partner", x.partner(0, 0), 0);
        x.rounds(1);
        long u = 1048576L * 699050 / (2 * 699050 + 349525);
        long none = 1048576L * 349525 / (2 * 699050 + 349525);
        Checks.due("second round", x.share(0, 0), 1048576L * 2 * u / (2 * u + none));
        Checks.due("second round: no word", x.share(0, -1), 1048576L * none / (2 * u + none));
        SideBySide y = Checks.books("a", "u u");
        y.rounds(2);
        Checks.due("two rounds in one call", y.share(0, 0), x.share(0, 0));
    }

    private static void roundLooksAtPricesAhead() {
        SideBySide x = Checks.books("a. b", "u. v");
        x.fast(0, 1);
        x.rounds(1);
        Checks.due("two and two: a with u", x.share(0, 0), 349525);
        Checks.due("two and two: a with v", x.share(0, 1), 349525);
        x.loosen(0);
        x.rounds(1);
        Checks.due("one and one: a with u", x.share(0, 0), 524288);
        Checks.due("one and one: a with v", x.share(0, 1), 0);
    }

    private static void oneSidedJointsDealNothing() {
        SideBySide x = Checks.books("a. b. c", "u");
        Checks.dueText("a is alone", Checks.kinds(x), "13");
        x.term(0, 0);
        x.term(0, 0);
        x.rounds(2);
        Checks.due("shares of a stay", x.share(0, 0), Checks.UNIT);
        SideBySide y = Checks.books("a. b", "");
        Checks.due("rounds without joints of both sides", y.rounds(10), 10);
        Checks.due("shares stay", y.share(0, -1), Checks.UNIT);
    }

    private static void fortyKinds() {
        StringBuilder right = new StringBuilder();
        for (int k = 10; k < 50; k++) {
            right.append(k).append(k % 10 == 9 ? "." : " ");
        }
        SideBySide x = Checks.books("a", right.toString().replace('.', '!'));
        Checks.due("forty kinds", x.count(1, 2), 40);
        Checks.due("forty kinds: even", x.share(0, 39), Checks.UNIT / 41);
        Checks.due("forty kinds: loss", x.partner(0, 1), 1);
        Checks.dueText("forty kinds: the last two sentences with a", Checks.kinds(x), "224");
        x.rounds(1);
        Checks.due("of 21 parts: the last kind", x.share(0, 39), 49932);
        Checks.due("of 21 parts: no word", x.share(0, -1), 49932);
        Checks.due("of 21 parts: not the first kind", x.share(0, 0), 0);
        Checks.due("of 21 parts: loss", x.partner(0, 1), 4);
    }

    private static void rounds() {
        SideBySide x = Checks.books("a b", "u v");
        Checks.due("rounds(0)", x.rounds(0), 0);
        Checks.due("rounds(0) does nothing", x.share(0, 0), 349525);
        Checks.due("rounds(10)", x.rounds(10), 10);
        Checks.due("rounds(11)", x.rounds(11), Checks.OUTSIDE);
        Checks.due("rounds(-1)", x.rounds(-1), Checks.OUTSIDE);
        for (int n : Checks.WILD) {
            Checks.due("rounds(" + n + ")", x.rounds(n), Checks.OUTSIDE);
        }
    }

    private static void share() {
        SideBySide x = Checks.books("a b", "u");
        Checks.due("share(2, 0)", x.share(2, 0), Checks.UNKNOWN);
        Checks.due("share(-1, 0)", x.share(-1, 0), Checks.UNKNOWN);
        Checks.due("share(0, 1)", x.share(0, 1), Checks.UNKNOWN);
        Checks.due("share(0, -2)", x.share(0, -2), Checks.UNKNOWN);
        for (int n : Checks.WILD) {
            Checks.due("share(" + n + ", 0)", x.share(n, 0), Checks.UNKNOWN);
            Checks.due("share(0, " + n + ")", x.share(0, n), Checks.UNKNOWN);
        }
    }

    private static void partner() {
        SideBySide x = Checks.books("a", "u v u v");
        x.rounds(1);
        Checks.due("of the greatest ones the least", x.partner(0, 0), 0);
        // Fifteen words and no word: what stands twice has 2 of 16 parts, an eighth.
        SideBySide y = Checks.books("a", "p p q q r r s s. t t u u v v w");
        Checks.dueText("one and two, fifteen words", Checks.kinds(y), "4");
        y.rounds(1);
        Checks.due("just an eighth", y.share(0, 0), Checks.UNIT / 8);
        Checks.due("just an eighth: partner", y.partner(0, 0), 0);
        SideBySide z = Checks.books("a", "p q r s t. p q r s t");
        Checks.dueText("one and two", Checks.kinds(z), "4");
        z.rounds(1);
        Checks.due("2 of 11 parts", z.share(0, 4), 190650);
        Checks.due("2 of 11 parts: partner", z.partner(0, 0), 0);
        SideBySide w = Checks.books("a", "p q r s t u v w. p q r s t u v w");
        Checks.dueText("one and two, eight kinds", Checks.kinds(w), "4");
        w.rounds(1);
        Checks.due("2 of 17 parts, above no word", w.share(0, 0) > w.share(0, -1) ? 1 : 0, 1);
        Checks.due("2 of 17 parts, below an eighth", w.partner(0, 0), Checks.NONE);
        Checks.due("partner(0, 3)", x.partner(0, 3), Checks.OUTSIDE);
        Checks.due("partner(0, -1)", x.partner(0, -1), Checks.OUTSIDE);
        Checks.due("partner(1, 3)", x.partner(1, 3), Checks.UNKNOWN);
        Checks.due("partner(-1, 0)", x.partner(-1, 0), Checks.UNKNOWN);
        for (int n : Checks.WILD) {
            Checks.due("partner(" + n + ", 0)", x.partner(n, 0), Checks.UNKNOWN);
            Checks.due("partner(0, " + n + ")", x.partner(0, n), Checks.OUTSIDE);
        }
    }

    private static void term() {
        SideBySide x = Checks.books("a b", "u v");
        Checks.due("term(0, 1)", x.term(0, 1), 1);
        Checks.due("term: at once", x.share(0, 1), Checks.UNIT);
        Checks.due("term: 0 else", x.share(0, 0), 0);
        Checks.due("term: 0 with no word", x.share(0, -1), 0);
        Checks.due("term: no loss", x.partner(0, 1), 0);
        Checks.due("term: its b", x.partner(0, 2), 1);
        Checks.due("term: partner", x.partner(0, 0), 1);
        Checks.due("term: others stay", x.share(1, 1), 349525);
        Checks.due("term: others have none", x.partner(1, 2), Checks.NONE);
        Checks.due("term(0, 2)", x.term(0, 2), Checks.UNKNOWN);
        Checks.due("term(0, -1)", x.term(0, -1), Checks.UNKNOWN);
        Checks.due("term(2, 0)", x.term(2, 0), Checks.UNKNOWN);
        Checks.due("term(-1, 0)", x.term(-1, 0), Checks.UNKNOWN);
        for (int n : Checks.WILD) {
            Checks.due("term(" + n + ", 0)", x.term(n, 0), Checks.UNKNOWN);
            Checks.due("term(0, " + n + ")", x.term(0, n), Checks.UNKNOWN);
        }
        Checks.due("refusals leave it", x.partner(0, 2), 1);
        Checks.due("term: gone", x.term(0, 0), 0);
        Checks.due("term: none then", x.partner(0, 2), Checks.NONE);
        Checks.due("term: shares stay", x.share(0, 1), Checks.UNIT);
        Checks.due("term: none for the other b", x.share(0, 0), 0);
        Checks.due("term: anew", x.term(0, 0), 1);
        Checks.due("term: anew, at once", x.share(0, 0), Checks.UNIT);
    }

    private static void termInRounds() {
        SideBySide x = Checks.books("a. b a", "u. v w");
        x.term(0, 1);
        x.rounds(3);
        Checks.due("behind rounds", x.share(0, 1), Checks.UNIT);
        Checks.due("behind rounds: 0 else", x.share(0, 0), 0);
        SideBySide y = Checks.books("a", "u");
        y.rounds(1);
        y.term(0, 0);
        y.term(0, 0);
        y.change(0, 0, 0, 0);
        y.rounds(1);
        Checks.due("gone: what is 0 stays 0", y.share(0, -1), 0);
        SideBySide z = Checks.books("a. b", "u. v");
        z.term(0, 1);
        z.term(0, 1);
        z.rounds(5);
        Checks.due("total 0: shares stay", z.share(0, 1), Checks.UNIT);
    }

    private static void broken() {
        SideBySide x = Checks.books("a b. c a. d", "u v. w x. y");
        Checks.due("broken: no terms", x.broken(), 0);
        x.term(0, 1);
        Checks.dueText("broken: way", Checks.kinds(x), "000");
        Checks.due("broken: v is in joint 0 alone", x.broken(), 1);
        x.term(2, 0);
        Checks.due("broken: a joint counts once", x.broken(), 1);
        x.term(3, 0);
        Checks.due("broken: another joint", x.broken(), 2);
        x.term(3, 0);
        Checks.due("broken: a term that is gone", x.broken(), 1);
        SideBySide y = Checks.books("a. b. c", "u");
        y.term(1, 0);
        Checks.due("broken: kept", y.broken(), 0);
        SideBySide z = Checks.books("a. b. c", "u. u. v");
        z.term(0, 1);
        Checks.due("broken: before", z.broken(), 1);
        z.fast(0, 2);
        Checks.dueText("broken: way with a pair", Checks.kinds(z), "251");
        Checks.due("broken: two and two has it", z.broken(), 0);
        SideBySide alone = Checks.books("a. b", "u v");
        alone.term(0, 1);
        alone.fast(1, 0);
        Checks.dueText("broken: two and one", Checks.kinds(alone), "3");
        alone.change(1, 0, 1, 0);
        Checks.due("broken: v is no kind of a word there now", alone.broken(), 1);
        SideBySide oneSided = Checks.books("a. b", "");
        Checks.book(oneSided, 0, "a. b. c");
        Checks.book(oneSided, 1, "u");
        oneSided.term(0, 0);
        oneSided.change(0, 1, 0, 0);
        oneSided.fast(2, 0);
        Checks.dueText("broken: a alone, a c with u", Checks.kinds(oneSided), "13");
        Checks.due("broken: a joint without both sides breaks none", oneSided.broken(), 0);
    }
}
