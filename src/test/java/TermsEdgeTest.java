/** What the document says ahead of its sections: numbers, and how long an object is used. */
public final class TermsEdgeTest {
    public static void main(String[] args) {
        the512thCall();
        cutsTowardsZero();
        numbersFromZeroOn();
        noneIsMinusOne();
        Checks.end();
    }

    private static void the512thCall() {
        Checks.says("What it is", "An object is used for at most 512 calls after it has been made");
        SideBySide fresh = Checks.books(Checks.greatestBook('l'), Checks.greatestBook('r'));
        fresh.rounds(10);
        SideBySide x = new SideBySide();
        int calls = 0;
        for (int b = 0; b < 2; b++) {
            Checks.due("take(" + b + ")", Checks.book(x, b, Checks.greatestBook(b == 0 ? 'l' : 'r')), 20);
            // 80 calls of feed(), one of cut(), one of take().
            calls += 82;
        }
        for (int n = 0; n < 10; n++) {
            Checks.due("rounds(1)", x.rounds(1), 1);
            calls++;
        }
        for (; calls < 511; calls++) {
            Checks.due("lay() behind " + calls + " calls", x.lay(), 20);
        }
        Checks.due("share() as the 512th call", x.share(39, 39), fresh.share(39, 39));
    }

    private static void cutsTowardsZero() {
        Checks.says("Terms", "/ cuts towards 0");
        SideBySide x = Checks.books("a b c. d", "uu. v");
        Checks.due("2 20 / 22: lengths 3 of 4 and 2 of 3, 9 and 8", x.price(0, 0, 0), 1);
        Checks.due("UNIT / 3", x.share(0, 0), 349525);
        x.term(0, 0);
        x.term(1, 0);
        x.putJoint(0, 0);
        Checks.due("100 (1 - 30) / 3", x.rate(0), -966);
    }

    private static void numbersFromZeroOn() {
        Checks.says("Terms", "what has a number has it from 0 on");
        SideBySide x = Checks.books("a", "u");
        Checks.due("BOOK", x.count(0, 0), 1);
        Checks.due("BOOK -1", x.count(-1, 0), Checks.UNKNOWN);
        Checks.due("SENTENCE", x.sentence(0, 0, 0), 1);
        Checks.due("SENTENCE -1", x.sentence(0, -1, 0), Checks.UNKNOWN);
        Checks.due("SENTENCE 1 of one", x.sentence(0, 1, 0), Checks.UNKNOWN);
        Checks.due("PARAGRAPH", x.sentence(0, 0, 2), 0);
        Checks.due("WORD and KIND", x.word(0, 0, 0), 0);
        Checks.due("WORD -1", x.word(0, 0, -1), Checks.UNKNOWN);
        Checks.due("WORD 1 of one", x.word(0, 0, 1), Checks.UNKNOWN);
        Checks.due("LETTER", x.letter(0, 0, 0), 'a');
        Checks.due("KIND 1 of one", x.letter(0, 1, 0), Checks.UNKNOWN);
        Checks.due("JOINT", x.joint(0, 0), 0);
        Checks.due("JOINT -1", x.joint(-1, 0), Checks.UNKNOWN);
        Checks.due("JOINT 1 of one", x.joint(1, 0), Checks.UNKNOWN);
        Checks.due("SLOT", x.putRow(0, 1), 1);
        Checks.due("SLOT -1", x.putRow(-1, 1), Checks.UNKNOWN);
        Checks.due("place", x.write(0, 0, 5), 0);
        Checks.due("place", x.read(0, 0), 5);
    }

    private static void noneIsMinusOne() {
        Checks.says("Terms", "NONE is -1.");
        Checks.due("NONE", SideBySide.NONE, -1);
        SideBySide x = Checks.books("a", "u");
        Checks.due("letter()", x.letter(0, 0, 1), -1);
        Checks.due("partner()", x.partner(0, 0), -1);
        Checks.due("partner(), its term", x.partner(0, 2), -1);
        Checks.due("link()", x.link(0, 0, 0), -1);
        Checks.due("share() with no word", x.share(0, -1), 524288);
        SideBySide none = Checks.withoutWay();
        Checks.due("lay()", none.lay(), -1);
    }
}
