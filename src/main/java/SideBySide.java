import java.util.Arrays;

/**
 * Two books side by side: a text and its translation, laid beside one another at the least price.
 *
 * <p>Every table is made in a constructor and used again, so that no call but the constructor makes
 * an object: all calls of a run share one room.
 */
public final class SideBySide {
    public static final int NONE = -1, UNKNOWN = -100001, OUTSIDE = -100002, NOT = -100003, FULL = -100004;

    private static final int MOST_BYTES = 1600;
    private static final int BYTES_A_FEED = 20;
    private static final int MOST_LETTERS = 10;
    private static final int MOST_WORDS = 10;
    private static final int MOST_SENTENCES = 20;
    private static final int MOST_KINDS = 40;
    private static final int MOST_SHORT_FORMS = 6;
    private static final int MOST_PAIRS = 20;
    private static final int MOST_JOINTS = 2 * MOST_SENTENCES;
    private static final int MOST_SIDE_WORDS = 2 * MOST_WORDS;
    private static final int MOST_ROUNDS = 10;
    private static final int MOST_ABOVE = 10000;
    private static final int SLOTS = 8;
    private static final int MOST_PLACES = 30;

    private static final int LINE_END = 10;
    private static final int BANG = 33;
    private static final int POINT = 46;
    private static final int QUERY = 63;

    private static final int JOINT_KINDS = 7;
    private static final int LEFT_ALONE = 1;
    private static final int RIGHT_ALONE = 2;
    private static final int CROSSED = 6;
    private static final int[] LEFT_SIDE = {1, 1, 0, 2, 1, 2, 2};
    private static final int[] RIGHT_SIDE = {1, 0, 1, 1, 2, 2, 2};
    private static final int[] BASE_PRICE = {0, 450, 450, 230, 230, 440, 480};
    private static final int STRETCH_SCALE = 20;
    private static final int FRIEND_PRICE = 15;
    private static final int MOST_FRIENDS = 6;

    /** Stands for the sum of a way that there is not; far above each sum of prices. */
    private static final int NO_WAY = 1000000000;

    private static final int UNIT = 1048576;
    private static final int LEAST_PARTNER = UNIT / 8;
    /** The column of a table of shares that is NO WORD's. */
    private static final int NO_WORD = MOST_KINDS;

    private static final int HOLDS_NOTHING = 0;
    private static final int HOLDS_SENTENCE = 1;
    private static final int HOLDS_JOINT = 2;
    private static final int HOLDS_ROW = 3;

    private static final int CODE_FINE = 0;
    private static final int CODE_NOTHING = 1;
    private static final int CODE_OTHER_SORT = 2;
    private static final int CODE_NO_PLACE = 3;
    private static final int CODE_BELOW_0 = 4;
    private static final int CODE_BY_0 = 6;

    private final Tape tape = new Tape();
    private final WordList shortForms = new WordList(MOST_SHORT_FORMS);
    private final Cutter cutter = new Cutter(tape, shortForms);
    private final Book[] books = {new Book(), new Book()};
    /** Is filled by take() and changes places with a book only when all of the tape fits. */
    private Book spare = new Book();
    private final Pairs pairs = new Pairs();
    private final Shares shares = new Shares();
    private final Ways ways = new Ways(books, pairs, shares);
    private final Links links = new Links(books, ways, shares);
    private final Slot[] desk = new Slot[SLOTS];
    private int latestCode = CODE_FINE;
    /** Whether something that prices or ways hang on has changed since the best way was worked out. */
    private boolean stale = true;

    public SideBySide() {
        for (int s = 0; s < SLOTS; s++) {
            desk[s] = new Slot();
        }
    }

    // ---- books

    public int feed(int a, int b, int c, int d, int e) {
        if (tape.length > MOST_BYTES - BYTES_A_FEED) {
            return FULL;
        }
        tape.append(a);
        tape.append(b);
        tape.append(c);
        tape.append(d);
        tape.append(e);
        return tape.length;
    }

    public int cut(int n) {
        if (n < 0 || n > tape.length) {
            return OUTSIDE;
        }
        int gone = tape.length - n;
        tape.length = n;
        return gone;
    }

    public int abbreviate() {
        if (cutter.readWords() != 1) {
            return NOT;
        }
        if (shortForms.enter(cutter.letters, cutter.kept) == NONE) {
            return FULL;
        }
        tape.length = 0;
        return shortForms.size;
    }

    public int take(int b) {
        if (!isBook(b)) {
            return UNKNOWN;
        }
        if (!cutter.fill(spare)) {
            return FULL;
        }
        Book old = books[b];
        books[b] = spare;
        spare = old;
        tape.length = 0;
        pairs.forgetAll();
        shares.spread(books[0].kinds.size, books[1].kinds.size);
        stale = true;
        return books[b].sentences;
    }

    public int count(int b, int what) {
        if (!isBook(b)) {
            return UNKNOWN;
        }
        switch (what) {
            case 0:
                return books[b].sentences;
            case 1:
                return books[b].paragraphs;
            case 2:
                return books[b].kinds.size;
            case 3:
                return books[b].wordsOf(0, books[b].sentences);
            case 4:
                return books[b].lengthOf(0, books[b].sentences);
            default:
                return OUTSIDE;
        }
    }

    public int sentence(int b, int s, int what) {
        if (!isSentence(b, s)) {
            return UNKNOWN;
        }
        switch (what) {
            case 0:
                return books[b].wordCounts[s];
            case 1:
                return books[b].lengthOf(s, 1);
            case 2:
                return books[b].paragraphOf[s];
            default:
                return OUTSIDE;
        }
    }

    public int word(int b, int s, int w) {
        if (!isWord(b, s, w)) {
            return UNKNOWN;
        }
        return books[b].words[s][w];
    }

    public int letter(int b, int k, int i) {
        if (!isBook(b) || !isKind(b, k)) {
            return UNKNOWN;
        }
        return books[b].kinds.letterAt(k, i);
    }

    public int change(int b, int s, int w, int k) {
        if (!isWord(b, s, w) || !isKind(b, k)) {
            return UNKNOWN;
        }
        int was = books[b].words[s][w];
        books[b].words[s][w] = k;
        stale = true;
        return was;
    }

    // ---- laying

    public int fast(int i, int j) {
        if (!isSentence(0, i) || !isSentence(1, j)) {
            return UNKNOWN;
        }
        if (!pairs.mayTie(i, j)) {
            return NOT;
        }
        if (pairs.size >= MOST_PAIRS) {
            return FULL;
        }
        pairs.tie(i, j);
        stale = true;
        return pairs.size;
    }

    public int loosen(int i) {
        if (!isSentence(0, i)) {
            return UNKNOWN;
        }
        if (!pairs.untie(i)) {
            return 0;
        }
        stale = true;
        return 1;
    }

    public int keep(boolean on) {
        int was = ways.kept ? 1 : 0;
        ways.kept = on;
        stale = true;
        return was;
    }

    public int lay() {
        layAnew();
        return ways.found ? ways.joints : NONE;
    }

    public int joint(int k, int what) {
        layAnew();
        if (!ways.hasJoint(k)) {
            return UNKNOWN;
        }
        switch (what) {
            case 0:
                return ways.kindOf[k];
            case 1:
                return ways.leftOf[k];
            case 2:
                return ways.rightOf[k];
            case 3:
                return ways.priceOf[k];
            default:
                return OUTSIDE;
        }
    }

    public int price(int kind, int i, int j) {
        if (kind < 0 || kind >= JOINT_KINDS) {
            return OUTSIDE;
        }
        if (!books[0].hasRun(i, LEFT_SIDE[kind]) || !books[1].hasRun(j, RIGHT_SIDE[kind])) {
            return UNKNOWN;
        }
        layAnew();
        return ways.priceAt(kind, i, j);
    }

    public int rest(int i, int j) {
        if (i < 0 || i > books[0].sentences || j < 0 || j > books[1].sentences) {
            return UNKNOWN;
        }
        layAnew();
        int least = ways.leastFrom(i, j);
        return least >= NO_WAY ? NOT : least;
    }

    public int second() {
        layAnew();
        int least = ways.leastButBest();
        return least >= NO_WAY ? NOT : least;
    }

    public int sure(int k, int d) {
        layAnew();
        if (!ways.hasJoint(k)) {
            return UNKNOWN;
        }
        if (d < 0 || d > MOST_ABOVE) {
            return OUTSIDE;
        }
        return ways.leastWithout(k) > ways.leastFrom(0, 0) + d ? 1 : 0;
    }

    // ---- shares

    public int rounds(int n) {
        if (n < 0 || n > MOST_ROUNDS) {
            return OUTSIDE;
        }
        layAnew();
        if (!ways.found) {
            return 0;
        }
        for (int r = 0; r < n; r++) {
            layAnew();
            playRound();
        }
        return n;
    }

    public int share(int a, int b) {
        if (!isKind(0, a) || b != NONE && !isKind(1, b)) {
            return UNKNOWN;
        }
        return shares.parts[a][b == NONE ? NO_WORD : b];
    }

    public int partner(int a, int what) {
        if (!isKind(0, a)) {
            return UNKNOWN;
        }
        switch (what) {
            case 0:
                return shares.partnerOf(a);
            case 1:
                return shares.lossOf(a);
            case 2:
                return shares.terms[a];
            default:
                return OUTSIDE;
        }
    }

    public int term(int a, int b) {
        if (!isKind(0, a) || !isKind(1, b)) {
            return UNKNOWN;
        }
        if (shares.terms[a] != NONE) {
            shares.terms[a] = NONE;
            return 0;
        }
        shares.terms[a] = b;
        shares.obeyTerm(a);
        stale = true;
        return 1;
    }

    public int broken() {
        layAnew();
        int broken = 0;
        for (int k = 0; k < ways.joints; k++) {
            if (breaksTerm(k)) {
                broken++;
            }
        }
        return broken;
    }

    // ---- links

    public int link(int k, int way, int x) {
        layAnew();
        if (!ways.hasJoint(k)) {
            return UNKNOWN;
        }
        // Only a way of the two says whose word x is: with another one no word is named, so none is missing.
        if (way != 0 && way != 1) {
            return OUTSIDE;
        }
        links.gather(k);
        boolean known = way == 0 ? links.hasLeft(x) : links.hasRight(x);
        if (!known) {
            return UNKNOWN;
        }
        if (!isLinkable(k)) {
            return NOT;
        }
        links.work();
        return way == 0 ? links.fromLeft[x] : links.fromRight[x];
    }

    public int linked(int k, int what, int x, int y) {
        layAnew();
        if (!ways.hasJoint(k)) {
            return UNKNOWN;
        }
        links.gather(k);
        if (!links.hasLeft(x) || !links.hasRight(y)) {
            return UNKNOWN;
        }
        if (what != 0 && what != 1) {
            return OUTSIDE;
        }
        if (!isLinkable(k)) {
            return NOT;
        }
        links.work();
        boolean holds = what == 0 ? links.isBoth(x, y) : links.isGrown(x, y);
        return holds ? 1 : 0;
    }

    public int phrases(int k) {
        layAnew();
        if (!ways.hasJoint(k)) {
            return UNKNOWN;
        }
        if (!isLinkable(k)) {
            return NOT;
        }
        links.gather(k);
        links.work();
        return links.countRowPairs();
    }

    // ---- the desk

    public int putSentence(int s, int b, int i) {
        if (!isSlot(s) || !isSentence(b, i)) {
            return UNKNOWN;
        }
        desk[s].holdSentence(books[b].words[i], books[b].wordCounts[i]);
        return 1;
    }

    public int putJoint(int s, int k) {
        layAnew();
        if (!isSlot(s) || !ways.hasJoint(k)) {
            return UNKNOWN;
        }
        int leftWords = books[0].wordsOf(ways.leftOf[k], LEFT_SIDE[ways.kindOf[k]]);
        desk[s].holdJoint(ways.priceOf[k], leftWords);
        return 1;
    }

    public int putRow(int s, int n) {
        if (!isSlot(s)) {
            return UNKNOWN;
        }
        if (n > MOST_PLACES) {
            return OUTSIDE;
        }
        if (n < 0) {
            return meet(CODE_BELOW_0);
        }
        desk[s].holdRow(n);
        return fine(n);
    }

    public int clear(int s) {
        if (!isSlot(s)) {
            return UNKNOWN;
        }
        int had = desk[s].holds == HOLDS_NOTHING ? 0 : 1;
        desk[s].holds = HOLDS_NOTHING;
        return had;
    }

    public int sort(int s) {
        return isSlot(s) ? desk[s].holds : UNKNOWN;
    }

    public int write(int s, int i, int v) {
        if (!isSlot(s)) {
            return UNKNOWN;
        }
        int met = placeCode(s, i);
        if (met != CODE_FINE) {
            return meet(met);
        }
        int was = desk[s].cells[i];
        desk[s].cells[i] = v;
        return fine(was);
    }

    public int read(int s, int i) {
        if (!isSlot(s)) {
            return UNKNOWN;
        }
        int met = placeCode(s, i);
        return met == CODE_FINE ? fine(desk[s].cells[i]) : meet(met);
    }

    public int spell(int s, int r, int i) {
        if (!isSlot(s) || !isSlot(r)) {
            return UNKNOWN;
        }
        int met = sortCode(s, HOLDS_SENTENCE);
        if (met == CODE_FINE) {
            met = sortCode(r, HOLDS_ROW);
        }
        if (met != CODE_FINE) {
            return meet(met);
        }
        int written = desk[r].copyFrom(desk[s], i);
        return written == desk[s].size ? fine(written) : meet(CODE_NO_PLACE);
    }

    public int rate(int s) {
        if (!isSlot(s)) {
            return UNKNOWN;
        }
        int met = sortCode(s, HOLDS_JOINT);
        if (met != CODE_FINE) {
            return meet(met);
        }
        if (desk[s].leftWords == 0) {
            return meet(CODE_BY_0);
        }
        return fine(100 * desk[s].jointPrice / desk[s].leftWords);
    }

    public int code() {
        return latestCode;
    }

    // ---- what the calls above share

    private boolean isBook(int b) {
        return b == 0 || b == 1;
    }

    private boolean isSentence(int b, int s) {
        return isBook(b) && books[b].hasRun(s, 1);
    }

    private boolean isWord(int b, int s, int w) {
        return isSentence(b, s) && w >= 0 && w < books[b].wordCounts[s];
    }

    private boolean isKind(int b, int k) {
        return k >= 0 && k < books[b].kinds.size;
    }

    private boolean isSlot(int s) {
        return s >= 0 && s < SLOTS;
    }

    /** The best way hangs on nothing but what sets stale, so that it need not be worked out again. */
    private void layAnew() {
        if (stale) {
            ways.measure();
            ways.fillCosts();
            ways.choose();
            stale = false;
        }
    }

    /** The caller has laid anew; whether there is a way does not hang on shares. */
    private void playRound() {
        shares.startDealing();
        for (int k = 0; k < ways.joints; k++) {
            dealJoint(k);
        }
        shares.settle();
        stale = true;
    }

    private void dealJoint(int k) {
        int kind = ways.kindOf[k];
        int i = ways.leftOf[k];
        int j = ways.rightOf[k];
        if (kind == CROSSED) {
            shares.deal(books[0], i, 1, books[1], j + 1, 1);
            shares.deal(books[0], i + 1, 1, books[1], j, 1);
        } else if (hasBothSides(kind)) {
            shares.deal(books[0], i, LEFT_SIDE[kind], books[1], j, RIGHT_SIDE[kind]);
        }
    }

    private boolean breaksTerm(int k) {
        int kind = ways.kindOf[k];
        if (!hasBothSides(kind)) {
            return false;
        }
        long rightKinds = books[1].kindsIn(ways.rightOf[k], RIGHT_SIDE[kind]);
        int i = ways.leftOf[k];
        for (int s = i; s < i + LEFT_SIDE[kind]; s++) {
            for (int w = 0; w < books[0].wordCounts[s]; w++) {
                int tied = shares.terms[books[0].words[s][w]];
                if (tied != NONE && (rightKinds >>> tied & 1L) == 0L) {
                    return true;
                }
            }
        }
        return false;
    }

    private boolean isLinkable(int k) {
        return hasBothSides(ways.kindOf[k]) && ways.kindOf[k] != CROSSED;
    }

    private static boolean hasBothSides(int kind) {
        return kind != LEFT_ALONE && kind != RIGHT_ALONE;
    }

    private int meet(int met) {
        latestCode = met;
        return 0;
    }

    private int fine(int answer) {
        latestCode = CODE_FINE;
        return answer;
    }

    private int sortCode(int s, int due) {
        if (desk[s].holds == HOLDS_NOTHING) {
            return CODE_NOTHING;
        }
        return desk[s].holds == due ? CODE_FINE : CODE_OTHER_SORT;
    }

    private int placeCode(int s, int i) {
        int met = sortCode(s, HOLDS_ROW);
        if (met != CODE_FINE) {
            return met;
        }
        return i >= 0 && i < desk[s].size ? CODE_FINE : CODE_NO_PLACE;
    }

    /** The bytes that were fed and not yet taken. */
    private static final class Tape {
        private final byte[] bytes = new byte[MOST_BYTES];
        int length;

        /** The caller has looked that there is room. */
        void append(int number) {
            for (int shift = 24; shift >= 0 && length < MOST_BYTES; shift -= 8) {
                bytes[length] = (byte) (number >>> shift);
                length++;
            }
        }

        boolean isLetterAt(int p) {
            if (p < 0 || p >= length) {
                return false;
            }
            int c = bytes[p];
            return c >= 'a' && c <= 'z' || c >= 'A' && c <= 'Z' || isDigitAt(p)
                || c == POINT && isDigitAt(p - 1) && isDigitAt(p + 1);
        }

        private boolean isDigitAt(int p) {
            return p >= 0 && p < length && bytes[p] >= '0' && bytes[p] <= '9';
        }

        /** The byte at p, a capital as the small letter that it counts as. */
        int smallAt(int p) {
            if (p < 0 || p >= length) {
                return 0;
            }
            int c = bytes[p];
            return c >= 'A' && c <= 'Z' ? c - 'A' + 'a' : c;
        }
    }

    /** Unlike words, numbered as they come first. */
    private static final class WordList {
        private final int room;
        private final byte[][] letters;
        private final int[] lengths;
        int size;

        WordList(int room) {
            this.room = room;
            this.letters = new byte[room][MOST_LETTERS];
            this.lengths = new int[room];
        }

        int indexOf(byte[] word, int length) {
            for (int k = 0; k < size; k++) {
                if (isAt(k, word, length)) {
                    return k;
                }
            }
            return NONE;
        }

        private boolean isAt(int k, byte[] word, int length) {
            if (lengths[k] != length) {
                return false;
            }
            for (int i = 0; i < length; i++) {
                if (letters[k][i] != word[i]) {
                    return false;
                }
            }
            return true;
        }

        /** The number of the word, which is new then or was here; NONE: there is no room. */
        int enter(byte[] word, int length) {
            int known = indexOf(word, length);
            if (known != NONE) {
                return known;
            }
            if (size >= room) {
                return NONE;
            }
            for (int i = 0; i < length; i++) {
                letters[size][i] = word[i];
            }
            lengths[size] = length;
            size++;
            return size - 1;
        }

        int letterAt(int k, int i) {
            return i >= 0 && i < lengths[k] ? letters[k][i] : NONE;
        }

        int lengthAt(int k) {
            return lengths[k];
        }
    }

    /** Sentences of kinds of words. */
    private static final class Book {
        final WordList kinds = new WordList(MOST_KINDS);
        final int[][] words = new int[MOST_SENTENCES][MOST_WORDS];
        final int[] wordCounts = new int[MOST_SENTENCES];
        final int[] paragraphOf = new int[MOST_SENTENCES];
        /** How many sentences are in all paragraphs up to each one. */
        final int[] paragraphEnds = new int[MOST_SENTENCES];
        int sentences;
        int paragraphs;
        /** How many words the sentence has that has not ended yet. */
        private int openWords;

        void makeEmpty() {
            kinds.size = 0;
            sentences = 0;
            paragraphs = 0;
            openWords = 0;
        }

        /** Answers whether the word fits. */
        boolean addWord(byte[] letters, int length) {
            if (sentences >= MOST_SENTENCES || openWords >= MOST_WORDS) {
                return false;
            }
            int kind = kinds.enter(letters, length);
            if (kind == NONE) {
                return false;
            }
            words[sentences][openWords] = kind;
            openWords++;
            return true;
        }

        void endSentence() {
            if (openWords > 0 && sentences < MOST_SENTENCES) {
                wordCounts[sentences] = openWords;
                paragraphOf[sentences] = paragraphs;
                sentences++;
                openWords = 0;
            }
        }

        void endParagraph() {
            endSentence();
            int ended = paragraphs == 0 ? 0 : paragraphEnds[paragraphs - 1];
            if (sentences > ended) {
                paragraphEnds[paragraphs] = sentences;
                paragraphs++;
            }
        }

        /** Whether there are n sentences from s on; s does not matter if n is 0. */
        boolean hasRun(int s, int n) {
            return n == 0 || s >= 0 && s <= sentences - n;
        }

        int wordsOf(int from, int n) {
            int sum = 0;
            for (int s = from; s < from + n; s++) {
                sum += wordCounts[s];
            }
            return sum;
        }

        int lengthOf(int from, int n) {
            int sum = 0;
            for (int s = from; s < from + n; s++) {
                for (int w = 0; w < wordCounts[s]; w++) {
                    sum += kinds.lengthAt(words[s][w]);
                }
            }
            return sum;
        }

        /** The kinds of the words of n sentences, as bits: a long has room for all 40. */
        long kindsIn(int from, int n) {
            long bits = 0L;
            for (int s = from; s < from + n; s++) {
                for (int w = 0; w < wordCounts[s]; w++) {
                    bits |= 1L << words[s][w];
                }
            }
            return bits;
        }
    }

    /** Cuts the tape into words and sentences. */
    private static final class Cutter {
        private final Tape tape;
        private final WordList shortForms;
        /** The letters of the latest word, as many as are kept. */
        final byte[] letters = new byte[MOST_LETTERS];
        int kept;

        Cutter(Tape tape, WordList shortForms) {
            this.tape = tape;
            this.shortForms = shortForms;
        }

        /** How many words the tape has; the letters of the last one stay. */
        int readWords() {
            int found = 0;
            for (int p = 0; p < tape.length; p++) {
                if (tape.isLetterAt(p)) {
                    if (!tape.isLetterAt(p - 1)) {
                        found++;
                        kept = 0;
                    }
                    keepLetter(p);
                }
            }
            return found;
        }

        /** Makes a book of the tape; answers whether all of it fits. */
        boolean fill(Book book) {
            book.makeEmpty();
            kept = 0;
            for (int p = 0; p < tape.length; p++) {
                if (tape.isLetterAt(p)) {
                    keepLetter(p);
                } else if (!part(book, tape.smallAt(p))) {
                    return false;
                }
            }
            return part(book, LINE_END);
        }

        private void keepLetter(int p) {
            if (kept < MOST_LETTERS) {
                letters[kept] = (byte) tape.smallAt(p);
                kept++;
            }
        }

        /** What a byte between words does; answers whether the word ahead of it fits. */
        private boolean part(Book book, int c) {
            boolean behindShortForm = kept > 0 && shortForms.indexOf(letters, kept) != NONE;
            if (kept > 0 && !book.addWord(letters, kept)) {
                return false;
            }
            kept = 0;
            if (c == LINE_END) {
                book.endParagraph();
            } else if (c == BANG || c == QUERY || c == POINT && !behindShortForm) {
                book.endSentence();
            }
            return true;
        }
    }

    /** Sentences that were told to go with one another. */
    private static final class Pairs {
        private final int[] rightOf = new int[MOST_SENTENCES];
        private final int[] leftOf = new int[MOST_SENTENCES];
        int size;

        Pairs() {
            Arrays.fill(rightOf, NONE);
            Arrays.fill(leftOf, NONE);
        }

        void forgetAll() {
            Arrays.fill(rightOf, NONE);
            Arrays.fill(leftOf, NONE);
            size = 0;
        }

        boolean mayTie(int i, int j) {
            if (rightOf[i] != NONE || leftOf[j] != NONE) {
                return false;
            }
            for (int u = 0; u < MOST_SENTENCES; u++) {
                if (rightOf[u] != NONE && isAcross(i - u, j - rightOf[u])) {
                    return false;
                }
            }
            return true;
        }

        /** Neighbours may be across: a joint of two and two can have them. */
        private static boolean isAcross(int left, int right) {
            boolean unlike = left < 0 && right > 0 || left > 0 && right < 0;
            boolean neighbours = left == 1 && right == -1 || left == -1 && right == 1;
            return unlike && !neighbours;
        }

        void tie(int i, int j) {
            rightOf[i] = j;
            leftOf[j] = i;
            size++;
        }

        /** Answers whether there was a pair. */
        boolean untie(int i) {
            if (rightOf[i] == NONE) {
                return false;
            }
            leftOf[rightOf[i]] = NONE;
            rightOf[i] = NONE;
            size--;
            return true;
        }

        /** Whether a joint, whose sentences there are, has both or none of each pair. */
        boolean allow(int kind, int i, int j) {
            for (int u = 0; u < LEFT_SIDE[kind]; u++) {
                int v = rightOf[i + u];
                if (v != NONE && !goTogether(kind, u, v - j)) {
                    return false;
                }
            }
            for (int v = 0; v < RIGHT_SIDE[kind]; v++) {
                int u = leftOf[j + v];
                if (u != NONE && !goTogether(kind, u - i, v)) {
                    return false;
                }
            }
            return true;
        }

        /** Of two sentences, each told by its number within a joint of that kind. */
        private static boolean goTogether(int kind, int u, int v) {
            boolean inside = u >= 0 && u < LEFT_SIDE[kind] && v >= 0 && v < RIGHT_SIDE[kind];
            return inside && (kind != CROSSED || u != v);
        }
    }

    /** Prices of joints, the least sums, and the best way of all. */
    private static final class Ways {
        private static final int SIDE = MOST_SENTENCES + 1;
        private static final int PLACES = SIDE * SIDE;

        private final Book[] books;
        private final Pairs pairs;
        private final Shares shares;
        boolean kept;
        private final int[] leftAhead = new int[SIDE];
        private final int[] rightAhead = new int[SIDE];
        /** The partner of each left kind as a bit among right kinds; no bit, if it has none. */
        private final long[] partnerBits = new long[MOST_KINDS];
        private final long[] rightKinds = new long[MOST_SENTENCES];
        /** The price of the joint of a kind at a place, NO_WAY where there may be none. */
        private final int[] costs = new int[JOINT_KINDS * PLACES];
        private final int[] least = new int[PLACES];
        private final int[] leastElse = new int[PLACES];
        boolean found;
        int joints;
        final int[] kindOf = new int[MOST_JOINTS];
        final int[] leftOf = new int[MOST_JOINTS];
        final int[] rightOf = new int[MOST_JOINTS];
        final int[] priceOf = new int[MOST_JOINTS];

        Ways(Book[] books, Pairs pairs, Shares shares) {
            this.books = books;
            this.pairs = pairs;
            this.shares = shares;
        }

        /** Sums up what prices hang on; comes first, then the costs, then the choice. */
        void measure() {
            addUpLengths(books[0], leftAhead);
            addUpLengths(books[1], rightAhead);
            for (int a = 0; a < books[0].kinds.size; a++) {
                int partner = shares.partnerOf(a);
                partnerBits[a] = partner == NONE ? 0L : 1L << partner;
            }
            for (int j = 0; j < books[1].sentences; j++) {
                rightKinds[j] = books[1].kindsIn(j, 1);
            }
        }

        private static void addUpLengths(Book book, int[] ahead) {
            ahead[0] = 0;
            for (int s = 0; s < book.sentences; s++) {
                ahead[s + 1] = ahead[s] + book.lengthOf(s, 1);
            }
        }

        private static int placeOf(int i, int j) {
            return i * SIDE + j;
        }

        private static int costIndex(int kind, int i, int j) {
            return kind * PLACES + i * SIDE + j;
        }

        void fillCosts() {
            for (int kind = 0; kind < JOINT_KINDS; kind++) {
                for (int i = 0; i <= books[0].sentences; i++) {
                    for (int j = 0; j <= books[1].sentences; j++) {
                        costs[costIndex(kind, i, j)] = mayStand(kind, i, j) ? priceAt(kind, i, j) : NO_WAY;
                    }
                }
            }
        }

        private boolean mayStand(int kind, int i, int j) {
            return books[0].hasRun(i, LEFT_SIDE[kind]) && books[1].hasRun(j, RIGHT_SIDE[kind])
                && pairs.allow(kind, i, j)
                && (!kept || keepsParagraphs(i, j, i + LEFT_SIDE[kind], j + RIGHT_SIDE[kind]));
        }

        private boolean keepsParagraphs(int i, int j, int iBehind, int jBehind) {
            int common = Math.min(books[0].paragraphs, books[1].paragraphs);
            for (int k = 0; k < common; k++) {
                int leftEnd = books[0].paragraphEnds[k];
                int rightEnd = books[1].paragraphEnds[k];
                boolean within = iBehind <= leftEnd && jBehind <= rightEnd;
                boolean beyond = i >= leftEnd && j >= rightEnd;
                if (!within && !beyond) {
                    return false;
                }
            }
            return true;
        }

        /** The caller has looked that the joint's sentences are there. */
        int priceAt(int kind, int i, int j) {
            int price = BASE_PRICE[kind];
            if (!hasBothSides(kind)) {
                return price;
            }
            int friends;
            if (kind == CROSSED) {
                price += stretch(i, 1, j + 1, 1) + stretch(i + 1, 1, j, 1);
                friends = countFriends(i, rightKinds[j + 1]) + countFriends(i + 1, rightKinds[j]);
            } else {
                price += stretch(i, LEFT_SIDE[kind], j, RIGHT_SIDE[kind]);
                friends = friendsOf(kind, i, j);
            }
            return price - FRIEND_PRICE * Math.min(friends, MOST_FRIENDS);
        }

        /** The price of the lengths of n left sentences with m right ones. */
        private int stretch(int i, int n, int j, int m) {
            int left = (leftAhead[i + n] - leftAhead[i]) * rightAhead[books[1].sentences];
            int right = (rightAhead[j + m] - rightAhead[j]) * leftAhead[books[0].sentences];
            int both = left + right;
            if (both <= 0) {
                return 0;
            }
            int d = Math.abs(left - right) * STRETCH_SCALE / both;
            return d * d;
        }

        private int friendsOf(int kind, int i, int j) {
            long kinds = 0L;
            for (int s = j; s < j + RIGHT_SIDE[kind]; s++) {
                kinds |= rightKinds[s];
            }
            int friends = 0;
            for (int s = i; s < i + LEFT_SIDE[kind]; s++) {
                friends += countFriends(s, kinds);
            }
            return friends;
        }

        /** How many words of a left sentence have their partner among those kinds. */
        private int countFriends(int s, long kinds) {
            int friends = 0;
            for (int w = 0; w < books[0].wordCounts[s]; w++) {
                if ((partnerBits[books[0].words[s][w]] & kinds) != 0L) {
                    friends++;
                }
            }
            return friends;
        }

        /** Least sums from each place to the end, without the joint of that cost index (NONE: with all). */
        private void fillLeast(int[] table, int banned) {
            int leftEnd = books[0].sentences;
            int rightEnd = books[1].sentences;
            for (int i = leftEnd; i >= 0; i--) {
                for (int j = rightEnd; j >= 0; j--) {
                    int best = i == leftEnd && j == rightEnd ? 0 : NO_WAY;
                    for (int kind = 0; kind < JOINT_KINDS; kind++) {
                        if (costIndex(kind, i, j) != banned) {
                            best = Math.min(best, sumBy(table, kind, i, j));
                        }
                    }
                    table[placeOf(i, j)] = best;
                }
            }
        }

        /** The least sum from a place on if a joint of that kind comes first. */
        private int sumBy(int[] table, int kind, int i, int j) {
            int cost = costs[costIndex(kind, i, j)];
            if (cost >= NO_WAY) {
                return NO_WAY;
            }
            int behind = table[placeOf(i + LEFT_SIDE[kind], j + RIGHT_SIDE[kind])];
            return behind >= NO_WAY ? NO_WAY : cost + behind;
        }

        void choose() {
            fillLeast(least, NONE);
            found = least[0] < NO_WAY;
            joints = 0;
            if (found) {
                traceBest();
            }
        }

        private void traceBest() {
            int i = 0;
            int j = 0;
            for (int k = 0; k < MOST_JOINTS && (i < books[0].sentences || j < books[1].sentences); k++) {
                int kind = firstBestKind(i, j);
                kindOf[k] = kind;
                leftOf[k] = i;
                rightOf[k] = j;
                priceOf[k] = costs[costIndex(kind, i, j)];
                joints = k + 1;
                i += LEFT_SIDE[kind];
                j += RIGHT_SIDE[kind];
            }
        }

        /** The caller has looked that some way leads on from there. */
        private int firstBestKind(int i, int j) {
            int kind = 0;
            while (kind < JOINT_KINDS - 1 && sumBy(least, kind, i, j) != least[placeOf(i, j)]) {
                kind++;
            }
            return kind;
        }

        boolean hasJoint(int k) {
            return k >= 0 && k < joints;
        }

        int leastFrom(int i, int j) {
            return least[placeOf(i, j)];
        }

        /** Each other way leaves the best one at some joint, and does best from there on. */
        int leastButBest() {
            int best = NO_WAY;
            int ahead = 0;
            for (int k = 0; k < joints; k++) {
                for (int kind = 0; kind < JOINT_KINDS; kind++) {
                    int sum = kind == kindOf[k] ? NO_WAY : sumBy(least, kind, leftOf[k], rightOf[k]);
                    if (sum < NO_WAY) {
                        best = Math.min(best, ahead + sum);
                    }
                }
                ahead += priceOf[k];
            }
            return best;
        }

        int leastWithout(int k) {
            fillLeast(leastElse, costIndex(kindOf[k], leftOf[k], rightOf[k]));
            return leastElse[0];
        }
    }

    /** How much each left kind of word goes with each right one, in parts of UNIT. */
    private static final class Shares {
        final int[][] parts = new int[MOST_KINDS][MOST_KINDS + 1];
        private final long[][] dealt = new long[MOST_KINDS][MOST_KINDS + 1];
        /** The right kind that a left kind is tied to, or NONE. */
        final int[] terms = new int[MOST_KINDS];
        private int leftKinds;
        private int rightKinds;

        Shares() {
            Arrays.fill(terms, NONE);
        }

        void spread(int leftCount, int rightCount) {
            leftKinds = leftCount;
            rightKinds = rightCount;
            Arrays.fill(terms, NONE);
            for (int a = 0; a < leftKinds; a++) {
                Arrays.fill(parts[a], UNIT / (rightKinds + 1));
            }
        }

        void startDealing() {
            for (int a = 0; a < leftKinds; a++) {
                Arrays.fill(dealt[a], 0L);
            }
        }

        /** Deals for each word of n left sentences from i on among the words of m right ones from j on. */
        void deal(Book left, int i, int n, Book right, int j, int m) {
            for (int s = i; s < i + n; s++) {
                for (int w = 0; w < left.wordCounts[s]; w++) {
                    dealWord(left.words[s][w], right, j, m);
                }
            }
        }

        private void dealWord(int a, Book right, int j, int m) {
            long total = parts[a][NO_WORD];
            for (int s = j; s < j + m; s++) {
                for (int w = 0; w < right.wordCounts[s]; w++) {
                    total += parts[a][right.words[s][w]];
                }
            }
            if (total <= 0L) {
                return;
            }
            for (int s = j; s < j + m; s++) {
                for (int w = 0; w < right.wordCounts[s]; w++) {
                    dealPart(a, right.words[s][w], total);
                }
            }
            dealPart(a, NO_WORD, total);
        }

        /** The caller has looked that total is above 0. */
        private void dealPart(int a, int b, long total) {
            dealt[a][b] += (long) UNIT * parts[a][b] / total;
        }

        void settle() {
            for (int a = 0; a < leftKinds; a++) {
                settleKind(a);
                obeyTerm(a);
            }
        }

        private void settleKind(int a) {
            long all = dealt[a][NO_WORD];
            for (int b = 0; b < rightKinds; b++) {
                all += dealt[a][b];
            }
            if (all <= 0L) {
                return;
            }
            for (int b = 0; b < rightKinds; b++) {
                parts[a][b] = (int) (UNIT * dealt[a][b] / all);
            }
            parts[a][NO_WORD] = (int) (UNIT * dealt[a][NO_WORD] / all);
        }

        void obeyTerm(int a) {
            if (terms[a] != NONE) {
                Arrays.fill(parts[a], 0);
                parts[a][terms[a]] = UNIT;
            }
        }

        int partnerOf(int a) {
            int best = NONE;
            int most = Math.max(parts[a][NO_WORD], LEAST_PARTNER - 1);
            for (int b = 0; b < rightKinds; b++) {
                if (parts[a][b] > most) {
                    most = parts[a][b];
                    best = b;
                }
            }
            return best;
        }

        int lossOf(int a) {
            int sum = parts[a][NO_WORD];
            for (int b = 0; b < rightKinds; b++) {
                sum += parts[a][b];
            }
            return UNIT - sum;
        }
    }

    /** Links between the words of one joint. */
    private static final class Links {
        private final Book[] books;
        private final Ways ways;
        private final Shares shares;
        private final int[] leftKinds = new int[MOST_SIDE_WORDS];
        private final int[] rightKinds = new int[MOST_SIDE_WORDS];
        private int leftWords;
        private int rightWords;
        final int[] fromLeft = new int[MOST_SIDE_WORDS];
        final int[] fromRight = new int[MOST_SIDE_WORDS];
        /** For each left word the right ones that it has grown to, as bits; and the other way round. */
        private final int[] grownOfLeft = new int[MOST_SIDE_WORDS];
        private final int[] grownOfRight = new int[MOST_SIDE_WORDS];

        Links(Book[] books, Ways ways, Shares shares) {
            this.books = books;
            this.ways = ways;
            this.shares = shares;
        }

        void gather(int k) {
            int kind = ways.kindOf[k];
            leftWords = gatherSide(books[0], ways.leftOf[k], LEFT_SIDE[kind], leftKinds);
            rightWords = gatherSide(books[1], ways.rightOf[k], RIGHT_SIDE[kind], rightKinds);
        }

        private static int gatherSide(Book book, int from, int n, int[] kinds) {
            int size = 0;
            for (int s = from; s < from + n; s++) {
                for (int w = 0; w < book.wordCounts[s] && size < MOST_SIDE_WORDS; w++) {
                    kinds[size] = book.words[s][w];
                    size++;
                }
            }
            return size;
        }

        boolean hasLeft(int x) {
            return x >= 0 && x < leftWords;
        }

        boolean hasRight(int y) {
            return y >= 0 && y < rightWords;
        }

        /** Works out the links of the joint that was gathered. */
        void work() {
            for (int x = 0; x < leftWords; x++) {
                fromLeft[x] = leadFromLeft(x);
                grownOfLeft[x] = 0;
            }
            for (int y = 0; y < rightWords; y++) {
                fromRight[y] = leadFromRight(y);
                grownOfRight[y] = 0;
            }
            growBoth();
            boolean grew = true;
            for (int time = 0; grew && time < MOST_SIDE_WORDS * MOST_SIDE_WORDS; time++) {
                grew = growOnce();
            }
        }

        private int leadFromLeft(int x) {
            int best = NONE;
            int most = shares.parts[leftKinds[x]][NO_WORD];
            for (int y = 0; y < rightWords; y++) {
                int part = shares.parts[leftKinds[x]][rightKinds[y]];
                if (part > most || best != NONE && part == most && isNearer(x, y, best)) {
                    most = part;
                    best = y;
                }
            }
            return best;
        }

        private int leadFromRight(int y) {
            int best = NONE;
            int most = 0;
            for (int x = 0; x < leftWords; x++) {
                int part = shares.parts[leftKinds[x]][rightKinds[y]];
                if (part > most || best != NONE && part == most && isNearer(y, x, best)) {
                    most = part;
                    best = x;
                }
            }
            return best;
        }

        private static boolean isNearer(int from, int to, int best) {
            return Math.abs(from - to) < Math.abs(from - best);
        }

        boolean isBoth(int x, int y) {
            return fromLeft[x] == y && fromRight[y] == x;
        }

        boolean isGrown(int x, int y) {
            return (grownOfLeft[x] >>> y & 1) != 0;
        }

        private void addGrown(int x, int y) {
            grownOfLeft[x] |= 1 << y;
            grownOfRight[y] |= 1 << x;
        }

        private void growBoth() {
            for (int x = 0; x < leftWords; x++) {
                int y = fromLeft[x];
                if (y != NONE && isBoth(x, y)) {
                    addGrown(x, y);
                }
            }
        }

        /** Answers whether one was added. */
        private boolean growOnce() {
            boolean grew = false;
            for (int x = 0; x < leftWords; x++) {
                for (int y = 0; y < rightWords; y++) {
                    if (mayGrow(x, y)) {
                        addGrown(x, y);
                        grew = true;
                    }
                }
            }
            return grew;
        }

        private boolean mayGrow(int x, int y) {
            boolean isLink = fromLeft[x] == y || fromRight[y] == x;
            boolean oneIsFree = grownOfLeft[x] == 0 || grownOfRight[y] == 0;
            return isLink && oneIsFree && !isGrown(x, y) && touchesGrown(x, y);
        }

        private boolean touchesGrown(int x, int y) {
            int around = (7 << y) >>> 1;
            for (int u = Math.max(x - 1, 0); u <= x + 1 && u < leftWords; u++) {
                if ((grownOfLeft[u] & around) != 0) {
                    return true;
                }
            }
            return false;
        }

        int countRowPairs() {
            int pairs = 0;
            for (int x = 0; x < leftWords; x++) {
                for (int m = 0; m <= 3 && x + m < leftWords; m++) {
                    pairs += countPartners(x, m);
                }
            }
            return pairs;
        }

        /** How many right rows go together with the left one x .. x + m. */
        private int countPartners(int x, int m) {
            int reached = union(grownOfLeft, x, m);
            if (reached == 0) {
                return 0;
            }
            int pairs = 0;
            for (int y = 0; y < rightWords; y++) {
                for (int n = 0; n <= 3 && y + n < rightWords; n++) {
                    boolean leftStays = (reached & ~rowBits(y, n)) == 0;
                    if (leftStays && (union(grownOfRight, y, n) & ~rowBits(x, m)) == 0) {
                        pairs++;
                    }
                }
            }
            return pairs;
        }

        private static int union(int[] bits, int from, int more) {
            int all = 0;
            for (int p = from; p <= from + more; p++) {
                all |= bits[p];
            }
            return all;
        }

        private static int rowBits(int from, int more) {
            return ((1 << (more + 1)) - 1) << from;
        }
    }

    /** A place of the desk: its row of cells serves a sentence's kinds and a row's numbers alike. */
    private static final class Slot {
        int holds = HOLDS_NOTHING;
        int size;
        final int[] cells = new int[MOST_PLACES];
        int jointPrice;
        int leftWords;

        void holdSentence(int[] kinds, int n) {
            holds = HOLDS_SENTENCE;
            size = n;
            for (int w = 0; w < n; w++) {
                cells[w] = kinds[w];
            }
        }

        void holdJoint(int price, int words) {
            holds = HOLDS_JOINT;
            size = 0;
            jointPrice = price;
            leftWords = words;
        }

        void holdRow(int n) {
            holds = HOLDS_ROW;
            size = n;
            Arrays.fill(cells, 0);
        }

        /** Copies as many cells as there are places from i on; answers how many. */
        int copyFrom(Slot other, int i) {
            if (i < 0 || i >= size) {
                return 0;
            }
            int copied = Math.min(other.size, size - i);
            for (int w = 0; w < copied; w++) {
                cells[i + w] = other.cells[w];
            }
            return copied;
        }
    }
}
