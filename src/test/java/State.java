import java.util.ArrayList;
import java.util.List;
import java.util.function.Consumer;
import java.util.function.ToIntFunction;

/**
 * All that can be asked of an object with small books, as a list of calls with their answers. It is asked in parts, each
 * of an object of its own: an object answers 512 calls, and some things can be asked only by changing others.
 */
final class State {
    private static final int PARTS = 5;

    private final SideBySide x;
    private final List<String> seen = new ArrayList<>();

    private State(SideBySide x) {
        this.x = x;
    }

    /** The call has that answer and leaves all as it is in an object that is its twin, but for the call. */
    static void dueUnchanged(String call, Consumer<SideBySide> setup, ToIntFunction<SideBySide> it, int want) {
        for (int part = 0; part < PARTS; part++) {
            SideBySide x = new SideBySide();
            SideBySide twin = new SideBySide();
            setup.accept(x);
            setup.accept(twin);
            Checks.due(call, it.applyAsInt(x), want);
            Checks.dueSame("behind " + call, of(x, part), of(twin, part));
        }
    }

    private static List<String> of(SideBySide x, int part) {
        State state = new State(x);
        if (part == 0) {
            state.askBook(0);
            state.askBook(1);
        } else if (part == 1) {
            state.askLaying();
        } else if (part == 2) {
            state.askShares();
            state.askLinks();
        } else if (part == 3) {
            state.askDesk();
            state.spellSentences();
        } else {
            state.askTold();
            state.askTape();
            state.askShortForms();
        }
        return state.seen;
    }

    private int ask(String call, int answer) {
        seen.add(call + " = " + answer);
        return answer;
    }

    private void askBook(int b) {
        for (int what = 0; what < 5; what++) {
            ask("count(" + b + ", " + what + ")", x.count(b, what));
        }
        int sentences = x.count(b, 0);
        for (int s = 0; s < sentences; s++) {
            int words = ask("sentence(" + b + ", " + s + ", 0)", x.sentence(b, s, 0));
            ask("sentence(" + b + ", " + s + ", 1)", x.sentence(b, s, 1));
            ask("sentence(" + b + ", " + s + ", 2)", x.sentence(b, s, 2));
            for (int w = 0; w < words; w++) {
                ask("word(" + b + ", " + s + ", " + w + ")", x.word(b, s, w));
            }
        }
        int kinds = x.count(b, 2);
        for (int k = 0; k < kinds; k++) {
            seen.add("kind " + k + " of book " + b + " is " + Checks.spelling(x, b, k));
        }
    }

    private void askLaying() {
        int joints = ask("lay()", x.lay());
        for (int k = 0; k < joints; k++) {
            for (int what = 0; what < 4; what++) {
                ask("joint(" + k + ", " + what + ")", x.joint(k, what));
            }
            ask("sure(" + k + ", 450)", x.sure(k, 450));
        }
        int lefts = x.count(0, 0);
        int rights = x.count(1, 0);
        for (int i = 0; i <= lefts; i++) {
            for (int j = 0; j <= rights; j++) {
                ask("rest(" + i + ", " + j + ")", x.rest(i, j));
            }
        }
        ask("second()", x.second());
    }

    private void askShares() {
        int lefts = x.count(0, 2);
        int rights = x.count(1, 2);
        for (int a = 0; a < lefts; a++) {
            for (int b = -1; b < rights; b++) {
                ask("share(" + a + ", " + b + ")", x.share(a, b));
            }
            for (int what = 0; what < 3; what++) {
                ask("partner(" + a + ", " + what + ")", x.partner(a, what));
            }
        }
        ask("broken()", x.broken());
    }

    private void askLinks() {
        int joints = x.lay();
        for (int k = 0; k < joints; k++) {
            ask("phrases(" + k + ")", x.phrases(k));
            for (int way = 0; way < 2; way++) {
                int w = 0;
                while (!Checks.isRefusal(ask("link(" + k + ", " + way + ", " + w + ")", x.link(k, way, w)))) {
                    w++;
                }
            }
        }
    }

    private void askDesk() {
        ask("code()", x.code());
        for (int s = 0; s < 8; s++) {
            int sort = ask("sort(" + s + ")", x.sort(s));
            if (sort == 2) {
                ask("rate(" + s + ")", x.rate(s));
                ask("code() behind it", x.code());
            }
            for (int i = 0; sort == 3 && i <= 30; i++) {
                ask("read(" + s + ", " + i + ")", x.read(s, i));
                if (ask("code() behind it", x.code()) != 0) {
                    break;
                }
            }
        }
    }

    /** Only a row tells what a sentence is: one is laid over the first slot that has no sentence. */
    private void spellSentences() {
        int row = 0;
        while (row < 7 && x.sort(row) == 1) {
            row++;
        }
        for (int s = 0; s < 8; s++) {
            if (x.sort(s) == 1) {
                x.putRow(row, 30);
                int words = ask("spell(" + s + ", " + row + ", 0)", x.spell(s, row, 0));
                for (int i = 0; i < words; i++) {
                    ask("its word " + i, x.read(row, i));
                }
            }
        }
    }

    private void askTold() {
        int lefts = x.count(0, 0);
        for (int i = 0; i < lefts; i++) {
            ask("loosen(" + i + ")", x.loosen(i));
        }
        ask("keep(false)", x.keep(false));
    }

    /** The tape's length is told by feed(), or, if it has no room for twenty more, by cut(). */
    private void askTape() {
        int length = x.feed(0, 0, 0, 0, 0) - 20;
        if (length < 0) {
            length = 1600;
            while (length > 1580 && x.cut(length) != 0) {
                length--;
            }
        }
        x.cut(length);
        ask("length of the tape", length);
        if (ask("take(0) of the tape", x.take(0)) == Checks.FULL) {
            x.cut(0);
        }
        seen.add("the tape is " + Checks.shown(x, 0));
    }

    /** Which there are is told by points behind those that the tests tell; how many, by another one. */
    private void askShortForms() {
        Checks.book(x, 1, "mr. a! dr. b! st. c! ca. d! vs. e! ed. f");
        seen.add("short forms cut so: " + Checks.shown(x, 1));
        ask("abbreviate() of another one", Checks.shortForm(x, "other"));
    }
}
