/** Section 3 and promises 20 to 24: for each sentence that names an edge a test of its own. */
public final class SharesEdgeTest {
    public static void main(String[] args) {
        equalShares();
        dealtAnew();
        totalOfUnlikeJoints();
        totalOfNothing();
        totalOfNothingInOneJoint();
        dealtNothing();
        eachWordByItself();
        loss();
        oneTermForEach();
        termBehindEachRound();
        partnerAboveNoWord();
        partnerOfAnEighth();
        partnerTheLeast();
        bestIsWorkedOutAnew();
        bestAheadOfEachRound();
        roundsBounds();
        roundsLeastAndGreatest();
        roundsWithoutWay();
        shareBounds();
        partnerBounds();
        partnerNone();
        termBounds();
        termThatIsGone();
        brokenLeastAndGreatest();
        brokenWithoutBothSides();
        brokenWithoutWay();
        Checks.end();
    }

    /** A right book of so many kinds. */
    private static SideBySide withRightKinds(int n) {
        return Checks.books("a b", Checks.unlikeWords(n, 10));
    }

    // ---- section 3

    private static void equalShares() {
        Checks.says("Section 3", "Behind take() of any BOOK all are equal: UNIT / (KINDS of THE RIGHT and 1).");
        int[][] want = {{0, 1048576}, {1, 524288}, {2, 349525}, {39, 26214}, {40, 25575}};
        for (int[] w : want) {
            SideBySide x = withRightKinds(w[0]);
            Checks.due(w[0] + " kinds: share(0, NONE)", x.share(0, -1), w[1]);
            Checks.due(w[0] + " kinds: share(1, NONE)", x.share(1, -1), w[1]);
            for (int b = 0; b < w[0]; b++) {
                Checks.due(w[0] + " kinds: share(1, " + b + ")", x.share(1, b), w[1]);
            }
        }
        for (int b = 0; b < 2; b++) {
            SideBySide x = Checks.books("a", "u u");
            x.rounds(1);
            Checks.due("behind a round", x.share(0, 0), 699050);
            Checks.book(x, b, b == 0 ? "a" : "u u");
            Checks.due("behind take(" + b + ")", x.share(0, 0), 524288);
            Checks.due("behind take(" + b + ")", x.share(0, -1), 524288);
        }
    }

    private static void dealtAnew() {
        Checks.says("Section 3", "A ROUND: DEALT is 0 for all");
        SideBySide x = Checks.books("a", "u u");
        x.rounds(2);
        // Of 699050, 699050 and 349525 are dealt 419430, 419430 and 209715.
        Checks.due("share(0, 0) behind two", x.share(0, 0), 838860);
        Checks.due("share(0, NONE) behind two", x.share(0, -1), 209715);
    }

    private static void totalOfUnlikeJoints() {
        Checks.says("Section 3", "TOTAL is the sum of its KIND's SHARES with each WORD of the RIGHT side (as often as it "
            + "stands there), and with NO WORD");
        SideBySide x = Checks.books("a b. a", "u v. u");
        x.rounds(1);
        // a is dealt thirds once, 349525 each, then halves with u and NO WORD, 524288 each: 2097151 in all.
        Checks.due("a with u", x.share(0, 0), 436906);
        Checks.due("a with v", x.share(0, 1), 174762);
        Checks.due("a with no word", x.share(0, -1), 436906);
    }

    /** a is tied to a kind that is not beside it, then the term is gone: all of its shares there are 0. */
    private static SideBySide withNothingToDeal(String left, String right) {
        SideBySide x = Checks.books(left, right);
        x.term(0, 1);
        x.term(0, 1);
        return x;
    }

    private static void totalOfNothing() {
        Checks.says("Section 3", "if that is above 0, DEALT of its KIND with each of these is UNIT times that SHARE / TOTAL "
            + "more (each WORD by itself).");
        SideBySide x = withNothingToDeal("a. b", "u. v");
        Checks.dueText("one and one", Checks.kinds(x), "00");
        Checks.due("rounds(3)", x.rounds(3), 3);
        Checks.due("share(0, 1) stays", x.share(0, 1), Checks.UNIT);
        Checks.due("share(0, 0) stays", x.share(0, 0), 0);
        Checks.due("share(0, NONE) stays", x.share(0, -1), 0);
        Checks.due("others are dealt: share(1, 1)", x.share(1, 1), 524288);
    }

    private static void totalOfNothingInOneJoint() {
        Checks.says("Section 3", "TOTAL is the sum of its KIND's SHARES with each WORD of the RIGHT side (as often as it "
            + "stands there), and with NO WORD");
        SideBySide x = withNothingToDeal("a b. a", "v. u");
        Checks.due("u is kind 1", x.letter(1, 1, 0), 'u');
        x.rounds(1);
        Checks.due("dealt where it is above 0", x.share(0, 1), Checks.UNIT);
        Checks.due("nothing where it is 0", x.share(0, 0), 0);
        SideBySide y = Checks.books("a", "u u u v");
        y.rounds(1);
        // Five parts of 209715: three with u, one with v, one with NO WORD.
        Checks.due("as often as it stands there", y.share(0, 0), 1048576L * 629145 / 1048575);
        Checks.due("once", y.share(0, 1), 1048576L * 209715 / 1048575);
        Checks.due("no word once", y.share(0, -1), 1048576L * 209715 / 1048575);
    }

    private static void dealtNothing() {
        Checks.says("Section 3", "Then, for each a, with ALL the sum of its DEALT: if that is above 0, each SHARE of a is "
            + "UNIT times DEALT / ALL.");
        SideBySide alone = Checks.books("a. b. c", "u u");
        Checks.dueText("a is alone", Checks.kinds(alone), "13");
        alone.rounds(1);
        Checks.due("a kind that is alone keeps its shares", alone.share(0, 0), 524288);
        Checks.due("one that is not, does not", alone.share(1, 0), 699050);
        SideBySide gone = Checks.books("a b", "u u");
        gone.change(0, 0, 0, 1);
        gone.rounds(1);
        Checks.due("a kind of no word keeps its shares", gone.share(0, 0), 524288);
        Checks.due("a kind of two words", gone.share(1, 0), 699050);
        SideBySide empty = Checks.books("a b", "");
        Checks.due("no right side at all: rounds(10)", empty.rounds(10), 10);
        Checks.due("no right side at all", empty.share(0, -1), Checks.UNIT);
        SideBySide far = Checks.books("a. b", "u. v");
        far.rounds(1);
        Checks.due("each share: one that was dealt nothing is 0", far.share(0, 1), 0);
    }

    private static void eachWordByItself() {
        Checks.says("Section 3", "and each WORD of its LEFT side");
        SideBySide x = Checks.books("a a. a b", "u. v");
        x.rounds(1);
        // a is dealt halves of u and NO WORD twice, of v and NO WORD once: 2, 1 and 3 of 6.
        Checks.due("u twice", x.share(0, 0), 349525);
        Checks.due("v once", x.share(0, 1), 174762);
        Checks.due("no word", x.share(0, -1), 524288);
        Checks.due("b", x.share(1, 1), 524288);
    }

    private static void loss() {
        Checks.says("Section 3", "LOSS of a is UNIT less the sum of its SHARES.");
        Checks.due("no kinds", withRightKinds(0).partner(0, 1), 0);
        Checks.due("one kind", withRightKinds(1).partner(0, 1), 0);
        Checks.due("two kinds", withRightKinds(2).partner(0, 1), 1);
        Checks.due("39 kinds", withRightKinds(39).partner(0, 1), 1048576 - 40 * 26214);
        Checks.due("40 kinds", withRightKinds(40).partner(0, 1), 1048576 - 41 * 25575);
        SideBySide x = withRightKinds(40);
        x.term(0, 39);
        Checks.due("of a term", x.partner(0, 1), 0);
    }

    private static void oneTermForEach() {
        Checks.says("Section 3", "A TERM ties a KIND a to a KIND b (one for each a): its SHARES are UNIT with b, 0 else, at "
            + "once");
        SideBySide x = Checks.books(Checks.unlikeWords(40, 10), Checks.unlikeWords(40, 10));
        for (int a = 0; a < 40; a++) {
            Checks.due("term(" + a + ", " + (39 - a) + ")", x.term(a, 39 - a), 1);
        }
        for (int a = 0; a < 40; a++) {
            Checks.due("partner(" + a + ", 2)", x.partner(a, 2), 39 - a);
            Checks.due("share(" + a + ", " + (39 - a) + ")", x.share(a, 39 - a), Checks.UNIT);
            Checks.due("share(" + a + ", " + (40 - a) % 40 + ")", x.share(a, (40 - a) % 40), 0);
            Checks.due("share(" + a + ", NONE)", x.share(a, -1), 0);
        }
    }

    private static void termBehindEachRound() {
        Checks.says("Section 3", "at once and behind each ROUND.");
        SideBySide x = Checks.books("a. b a", "u. v w");
        x.term(0, 1);
        for (int n = 0; n <= 10; n++) {
            Checks.due("rounds(" + n + ")", x.rounds(n), n);
            Checks.due("share(0, 1)", x.share(0, 1), Checks.UNIT);
            Checks.due("share(0, 0)", x.share(0, 0), 0);
            Checks.due("share(0, NONE)", x.share(0, -1), 0);
        }
    }

    private static void partnerAboveNoWord() {
        Checks.says("Section 3", "PARTNER of a: the b of the greatest SHARE (of these the least), if that is above the SHARE "
            + "with NO WORD");
        Checks.due("as great: none", Checks.books("a", "u").partner(0, 0), Checks.NONE);
        SideBySide x = Checks.books("a", "u u");
        Checks.due("as great still", x.partner(0, 0), Checks.NONE);
        x.rounds(1);
        Checks.due("above", x.partner(0, 0), 0);
        SideBySide y = Checks.books("a. a", "u. v");
        y.rounds(1);
        Checks.due("a quarter with each, a half with no word", y.share(0, -1), 524288);
        Checks.due("below: none", y.partner(0, 0), Checks.NONE);
        Checks.due("no kind to be one", Checks.books("a", "").partner(0, 0), Checks.NONE);
    }

    private static void partnerOfAnEighth() {
        Checks.says("Section 3", "and at least UNIT / 8; else none.");
        SideBySide x = Checks.books("a", "p p q q r r s s. t t u u v v w");
        x.rounds(1);
        Checks.due("2 of 16 parts", x.share(0, 0), 131072);
        Checks.due("just an eighth", x.partner(0, 0), 0);
        SideBySide y = Checks.books("a", "p p q q r r s s. t t u u v v w x");
        y.rounds(1);
        Checks.due("2 of 17 parts", y.share(0, 0), 123361);
        Checks.due("less than an eighth", y.partner(0, 0), Checks.NONE);
        // p has twice 142987 of 1143899 where it stands, which is cut to 131071 twice, and nothing elsewhere.
        SideBySide z = Checks.books("a. a", "k l m n o p q r s t. k l m n o p q r s t");
        z.change(1, 1, 9, 5);
        z.rounds(1);
        z.change(1, 0, 5, 9);
        z.rounds(1);
        Checks.due("one less than an eighth", z.share(0, 5), 131071);
        Checks.due("no word has less", z.share(0, -1) < 131071 ? 1 : 0, 1);
        Checks.due("one less than an eighth: none", z.partner(0, 0), Checks.NONE);
    }

    private static void partnerTheLeast() {
        Checks.says("Section 3", "the b of the greatest SHARE (of these the least)");
        SideBySide x = Checks.books("a", "w u u v v");
        x.rounds(1);
        Checks.due("1 and 2 are as great", x.share(0, 1) - x.share(0, 2), 0);
        Checks.due("the least of them", x.partner(0, 0), 1);
        SideBySide last = Checks.books("a", "w u v v");
        last.rounds(1);
        Checks.due("the last kind", last.partner(0, 0), 2);
    }

    private static void bestIsWorkedOutAnew() {
        Checks.says("Section 3", "THE BEST is worked out anew whenever it is asked, by SHARES as they are.");
        SideBySide x = Checks.books("a.b.c", "u");
        Checks.dueText("at first", Checks.kinds(x), "13");
        x.term(0, 0);
        Checks.dueText("behind term()", Checks.kinds(x), "31");
        x.term(0, 0);
        Checks.dueText("behind term() that takes it away: its shares stay", Checks.kinds(x), "31");
        x.change(0, 0, 0, 1);
        Checks.dueText("behind change()", Checks.kinds(x), "13");
        x.change(0, 0, 0, 0);
        Checks.dueText("behind change() back", Checks.kinds(x), "31");
        x.fast(2, 0);
        Checks.dueText("behind fast()", Checks.kinds(x), "13");
        x.loosen(2);
        Checks.dueText("behind loosen()", Checks.kinds(x), "31");
        Checks.book(x, 1, "u");
        Checks.dueText("behind take()", Checks.kinds(x), "13");
    }

    private static void bestAheadOfEachRound() {
        Checks.says("Section 3", "for each JOINT of THE BEST (as the PRICES are ahead of the ROUND) that has both sides");
        // y goes with a kind that no word is of; x goes with u from the first round on, and draws z beside u.
        SideBySide x = Checks.books("z x x x. x. y y y y", "u u v");
        x.change(1, 0, 2, 0);
        x.term(2, 1);
        Checks.dueText("z is alone", Checks.kinds(x), "13");
        x.rounds(1);
        Checks.due("z was alone", x.share(0, 0), 349525);
        Checks.dueText("behind a round: y is alone", Checks.kinds(x), "31");
        Checks.book(x, 1, "u u v");
        x.change(1, 0, 2, 0);
        x.term(2, 1);
        x.rounds(2);
        Checks.due("z was beside u in the second one", x.share(0, 0), 786432);
        Checks.due("z with no word", x.share(0, -1), 262144);
    }

    // ---- promises 20 to 24

    private static void roundsBounds() {
        Checks.says("Promise 20", "n ROUNDS (0 .. 10): how many were done (none, if there is no WAY). OUTSIDE.");
        SideBySide x = Checks.books("a", "u u");
        Checks.bounds("rounds()", x::rounds, 0, 10, Checks.OUTSIDE);
        SideBySide empty = new SideBySide();
        Checks.bounds("rounds() of nothing", empty::rounds, 0, 10, Checks.OUTSIDE);
        SideBySide none = Checks.withoutWay();
        Checks.bounds("rounds() without a way", none::rounds, 0, 10, Checks.OUTSIDE);
    }

    private static void roundsLeastAndGreatest() {
        Checks.says("Promise 20", "n ROUNDS (0 .. 10): how many were done");
        SideBySide x = Checks.books("a b. c a", "u v u. w");
        SideBySide y = Checks.books("a b. c a", "u v u. w");
        Checks.due("rounds(0)", x.rounds(0), 0);
        Checks.due("rounds(0) does nothing", x.share(0, 0), Checks.UNIT / 4);
        Checks.due("rounds(10)", x.rounds(10), 10);
        for (int n = 0; n < 10; n++) {
            Checks.due("rounds(1)", y.rounds(1), 1);
        }
        for (int a = 0; a < 3; a++) {
            for (int b = -1; b < 3; b++) {
                Checks.due("ten at once, ten one by one: share(" + a + ", " + b + ")", x.share(a, b), y.share(a, b));
            }
        }
        Checks.due("ten of nothing", new SideBySide().rounds(10), 10);
    }

    private static void roundsWithoutWay() {
        Checks.says("Promise 20", "(none, if there is no WAY)");
        for (int n = 0; n <= 10; n++) {
            SideBySide x = Checks.withoutWay();
            Checks.due("rounds(" + n + ")", x.rounds(n), 0);
            Checks.due("shares stay", x.share(0, 0), 349525);
        }
    }

    private static void shareBounds() {
        Checks.says("Promise 21", "SHARE of KIND a of THE LEFT with KIND b of THE RIGHT (b NONE: NO WORD). UNKNOWN.");
        SideBySide x = Checks.books(Checks.unlikeWords(40, 10), Checks.unlikeWords(40, 10));
        Checks.bounds("share(a, 39)", a -> x.share(a, 39), 0, 39, Checks.UNKNOWN);
        Checks.bounds("share(39, b)", b -> x.share(39, b), -1, 39, Checks.UNKNOWN);
        Checks.bounds("share(a, NONE)", a -> x.share(a, -1), 0, 39, Checks.UNKNOWN);
        SideBySide y = Checks.books("a", "");
        Checks.bounds("share(0, b), no right kind", b -> y.share(0, b), -1, -1, Checks.UNKNOWN);
        SideBySide z = Checks.books("", "u");
        Checks.due("share(0, 0), no left kind", z.share(0, 0), Checks.UNKNOWN);
        Checks.due("share(0, NONE), no left kind", z.share(0, -1), Checks.UNKNOWN);
        SideBySide unlike = Checks.books("a b c", "u");
        Checks.bounds("share(a, 0) of three and one", a -> unlike.share(a, 0), 0, 2, Checks.UNKNOWN);
        Checks.bounds("share(2, b) of three and one", b -> unlike.share(2, b), -1, 0, Checks.UNKNOWN);
    }

    private static void partnerBounds() {
        Checks.says("Promise 22", "UNKNOWN, OUTSIDE.");
        SideBySide x = Checks.books(Checks.unlikeWords(40, 10), "u");
        for (int n = 0; n < 3; n++) {
            int what = n;
            Checks.bounds("partner(a, " + what + ")", a -> x.partner(a, what), 0, 39, Checks.UNKNOWN);
        }
        Checks.bounds("partner(39, what)", what -> x.partner(39, what), 0, 2, Checks.OUTSIDE);
        SideBySide empty = Checks.books("", "u");
        Checks.due("partner(0, 0), no left kind", empty.partner(0, 0), Checks.UNKNOWN);
    }

    private static void partnerNone() {
        Checks.says("Promise 22", "What = 0 PARTNER of KIND a of THE LEFT (NONE: none), 1 LOSS (as its SHARES are now), 2 the "
            + "b of its TERM (NONE).");
        SideBySide x = Checks.books("a b", "u v");
        Checks.due("partner(0, 0)", x.partner(0, 0), Checks.NONE);
        Checks.due("partner(0, 1)", x.partner(0, 1), 1);
        Checks.due("partner(0, 2)", x.partner(0, 2), Checks.NONE);
        x.term(0, 0);
        Checks.due("the least b: partner(0, 0)", x.partner(0, 0), 0);
        Checks.due("the least b: partner(0, 2)", x.partner(0, 2), 0);
        Checks.due("as its shares are now", x.partner(0, 1), 0);
        x.term(1, 1);
        Checks.due("the greatest b: partner(1, 0)", x.partner(1, 0), 1);
        Checks.due("the greatest b: partner(1, 2)", x.partner(1, 2), 1);
        x.term(0, 0);
        Checks.due("a term that is gone: partner(0, 2)", x.partner(0, 2), Checks.NONE);
        Checks.due("its shares stay: partner(0, 0)", x.partner(0, 0), 0);
    }

    /** Takes the term away again, so that the next one is told, not taken away. */
    private static int termOnce(SideBySide x, int a, int b) {
        int answer = x.term(a, b);
        if (answer == 1) {
            x.term(a, b);
        }
        return answer;
    }

    private static void termBounds() {
        Checks.says("Promise 23", "UNKNOWN.");
        SideBySide x = Checks.books(Checks.unlikeWords(40, 10), Checks.unlikeWords(40, 10));
        Checks.bounds("term(a, 39)", a -> termOnce(x, a, 39), 0, 39, Checks.UNKNOWN);
        Checks.bounds("term(39, b)", b -> termOnce(x, 39, b), 0, 39, Checks.UNKNOWN);
        SideBySide y = Checks.books("a", "");
        Checks.due("term(0, 0), no right kind", y.term(0, 0), Checks.UNKNOWN);
        Checks.due("term(0, NONE), no right kind", y.term(0, -1), Checks.UNKNOWN);
        SideBySide z = Checks.books("", "u");
        Checks.due("term(0, 0), no left kind", z.term(0, 0), Checks.UNKNOWN);
        SideBySide w = Checks.books("a", "u");
        w.term(0, 0);
        Checks.due("term(0, 1): there is one for a, but no such b", w.term(0, 1), Checks.UNKNOWN);
        Checks.due("it stays", w.partner(0, 2), 0);
    }

    private static void termThatIsGone() {
        Checks.says("Promise 23", "A TERM: 1; 0, if there was one for a: that is gone then, and nothing else is done (its "
            + "SHARES stay till the next ROUND).");
        SideBySide x = Checks.books("a. b", "u. u v");
        Checks.due("term(0, 1)", x.term(0, 1), 1);
        Checks.due("term(0, 0)", x.term(0, 0), 0);
        Checks.due("there is none", x.partner(0, 2), Checks.NONE);
        Checks.due("share(0, 1) stays", x.share(0, 1), Checks.UNIT);
        Checks.due("share(0, 0) stays", x.share(0, 0), 0);
        Checks.due("term(0, 0) anew", x.term(0, 0), 1);
        Checks.due("share(0, 0)", x.share(0, 0), Checks.UNIT);
        Checks.due("term(0, 0) of the same b", x.term(0, 0), 0);
        Checks.due("share(0, 0) stays", x.share(0, 0), Checks.UNIT);
        SideBySide y = Checks.books("a a. b", "u v. w");
        y.term(0, 0);
        y.rounds(1);
        y.term(0, 0);
        // What it goes with stands beside it, so that a round deals all of it there again.
        y.rounds(1);
        Checks.due("till the next round, by its rule", y.share(0, 0), Checks.UNIT);
    }

    private static void brokenLeastAndGreatest() {
        Checks.says("Promise 24", "In how many JOINTS of THE BEST, with both sides, some WORD of the LEFT side has a TERM "
            + "whose b is no KIND of a WORD of its RIGHT side (of 6: of all of it)");
        SideBySide x = Checks.books("a.".repeat(20), "u.".repeat(19) + "v");
        Checks.due("no terms", x.broken(), 0);
        x.term(0, 1);
        Checks.due("all but the last", x.broken(), 19);
        x.change(1, 19, 0, 0);
        Checks.due("all, for b is a kind of no word", x.broken(), 20);
        x.term(0, 1);
        Checks.due("a term that is gone", x.broken(), 0);
        x.term(0, 0);
        Checks.due("none", x.broken(), 0);
        Checks.due("nothing to lay", new SideBySide().broken(), 0);
        SideBySide y = Checks.books("a b c. d", "u. v");
        y.term(0, 1);
        y.term(1, 1);
        y.term(2, 1);
        Checks.due("a joint counts once", y.broken(), 1);
        SideBySide z = Checks.books("a b. c", "u. v");
        z.term(0, 0);
        z.term(1, 1);
        Checks.due("some word of it is enough", z.broken(), 1);
    }

    private static void brokenWithoutBothSides() {
        Checks.says("Promise 24", "with both sides");
        SideBySide x = Checks.books("a. b. c", "u");
        x.fast(2, 0);
        x.term(0, 0);
        Checks.dueText("a is alone", Checks.kinds(x), "13");
        Checks.due("alone it breaks nothing", x.broken(), 0);
        SideBySide y = Checks.books("a", "u. v");
        y.term(0, 1);
        y.fast(0, 0);
        Checks.dueText("one and two", Checks.kinds(y), "4");
        Checks.due("all of the right side counts", y.broken(), 0);
    }

    private static void brokenWithoutWay() {
        Checks.says("Promise 24", "0 if there is no WAY.");
        SideBySide x = Checks.books("a\nb", "u\nv");
        x.keep(true);
        x.term(0, 1);
        Checks.due("broken in one", x.broken(), 1);
        x.fast(0, 1);
        Checks.due("no way", x.lay(), Checks.NONE);
        Checks.due("broken in none", x.broken(), 0);
    }
}
