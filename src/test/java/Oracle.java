import java.util.ArrayList;
import java.util.Arrays;
import java.util.HashSet;
import java.util.LinkedHashSet;
import java.util.List;
import java.util.Set;
import java.util.TreeSet;
import java.util.regex.Matcher;
import java.util.regex.Pattern;

/**
 * The document once more, as plainly as can be: all ways are written out one by one, so that books have to be small.
 * Shares no code and no way of working with the class that it is held against.
 */
final class Oracle {
    static final int NONE = -1, UNKNOWN = -100001, OUTSIDE = -100002, NOT = -100003, FULL = -100004;
    static final long UNIT = 1048576;
    private static final int[] LEFTS = {1, 1, 0, 2, 1, 2, 2};
    private static final int[] RIGHTS = {1, 0, 1, 1, 2, 2, 2};
    private static final int[] BASE = {0, 450, 450, 230, 230, 440, 480};
    private static final Pattern TOKEN =
        Pattern.compile("(?:[a-z0-9]|(?<=[0-9])\\.(?=[0-9]))+|[.!?\n]", Pattern.DOTALL);

    record Sentence(List<String> words, int paragraph) { }

    record Joint(int kind, int i, int j) { }

    record Way(List<Joint> joints, int sum) { }

    record Cell(int x, int y) { }

    /** What lies in a slot; sort 1, 2, 3. */
    static final class Thing {
        int sort;
        List<Integer> kinds = List.of();
        int price;
        int leftWords;
        int[] row = {};
    }

    private String tape = "";
    private final Set<String> shortForms = new LinkedHashSet<>();
    private final List<List<Sentence>> books = new ArrayList<>(List.of(new ArrayList<>(), new ArrayList<>()));
    private final List<List<String>> kinds = new ArrayList<>(List.of(new ArrayList<>(), new ArrayList<>()));
    private final Set<Cell> pairs = new HashSet<>();
    private boolean kept = false;
    private long[][] shares = {};
    private Integer[] terms = {};
    private final Thing[] desk = new Thing[8];
    private int code = 0;

    int feed(String twenty) {
        if (tape.length() + 20 > 1600) {
            return FULL;
        }
        tape += twenty;
        return tape.length();
    }

    int cut(int n) {
        if (n < 0 || n > tape.length()) {
            return OUTSIDE;
        }
        int went = tape.length() - n;
        tape = tape.substring(0, n);
        return went;
    }

    private static String small(String text) {
        StringBuilder out = new StringBuilder();
        for (char c : text.toCharArray()) {
            out.append(c >= 'A' && c <= 'Z' ? (char) (c + 32) : c);
        }
        return out.toString();
    }

    private static boolean isEnd(String token) {
        return token.equals(".") || token.equals("!") || token.equals("?") || token.equals("\n");
    }

    private static String first10(String word) {
        return word.substring(0, Math.min(10, word.length()));
    }

    int abbreviate() {
        List<String> found = new ArrayList<>();
        Matcher m = TOKEN.matcher(small(tape));
        while (m.find()) {
            if (!isEnd(m.group())) {
                found.add(first10(m.group()));
            }
        }
        if (found.size() != 1) {
            return NOT;
        }
        if (shortForms.size() == 6 && !shortForms.contains(found.get(0))) {
            return FULL;
        }
        shortForms.add(found.get(0));
        tape = "";
        return shortForms.size();
    }

    int take(int b) {
        if (b != 0 && b != 1) {
            return UNKNOWN;
        }
        List<Sentence> made = new ArrayList<>();
        List<String> open = new ArrayList<>();
        int paragraph = 0;
        int wordEnd = -1;
        Matcher m = TOKEN.matcher(small(tape) + "\n");
        while (m.find()) {
            String token = m.group();
            if (!isEnd(token)) {
                open.add(first10(token));
                wordEnd = m.end();
                continue;
            }
            boolean spared = token.equals(".") && wordEnd == m.start() && shortForms.contains(open.get(open.size() - 1));
            if (!spared && !open.isEmpty()) {
                made.add(new Sentence(open, paragraph));
                open = new ArrayList<>();
            }
            boolean has = !made.isEmpty() && made.get(made.size() - 1).paragraph == paragraph;
            if (token.equals("\n") && has) {
                paragraph++;
            }
        }
        Set<String> unlike = new LinkedHashSet<>();
        boolean full = made.size() > 20;
        for (Sentence s : made) {
            unlike.addAll(s.words);
            full |= s.words.size() > 10;
        }
        if (full || unlike.size() > 40) {
            return FULL;
        }
        books.set(b, made);
        kinds.set(b, new ArrayList<>(unlike));
        tape = "";
        pairs.clear();
        int n = kinds.get(1).size();
        shares = new long[kinds.get(0).size()][n + 1];
        for (long[] row : shares) {
            Arrays.fill(row, UNIT / (n + 1));
        }
        terms = new Integer[kinds.get(0).size()];
        return made.size();
    }

    private boolean isBook(int b) {
        return b == 0 || b == 1;
    }

    private boolean isSentence(int b, int s) {
        return isBook(b) && s >= 0 && s < books.get(b).size();
    }

    private boolean isWord(int b, int s, int w) {
        return isSentence(b, s) && w >= 0 && w < books.get(b).get(s).words.size();
    }

    private boolean isKind(int b, int k) {
        return isBook(b) && k >= 0 && k < kinds.get(b).size();
    }

    private int length(int b, int s) {
        return String.join("", books.get(b).get(s).words).length();
    }

    private int length(int b) {
        int all = 0;
        for (int s = 0; s < books.get(b).size(); s++) {
            all += length(b, s);
        }
        return all;
    }

    int count(int b, int what) {
        if (!isBook(b)) {
            return UNKNOWN;
        }
        List<Sentence> book = books.get(b);
        int paragraphs = book.isEmpty() ? 0 : book.get(book.size() - 1).paragraph + 1;
        int words = book.stream().mapToInt(s -> s.words.size()).sum();
        int[] all = {book.size(), paragraphs, kinds.get(b).size(), words, length(b)};
        return what < 0 || what > 4 ? OUTSIDE : all[what];
    }

    int sentence(int b, int s, int what) {
        if (!isSentence(b, s)) {
            return UNKNOWN;
        }
        Sentence it = books.get(b).get(s);
        int[] all = {it.words.size(), length(b, s), it.paragraph};
        return what < 0 || what > 2 ? OUTSIDE : all[what];
    }

    private int kindOf(int b, int s, int w) {
        return kinds.get(b).indexOf(books.get(b).get(s).words.get(w));
    }

    int word(int b, int s, int w) {
        return isWord(b, s, w) ? kindOf(b, s, w) : UNKNOWN;
    }

    int letter(int b, int k, int i) {
        if (!isKind(b, k)) {
            return UNKNOWN;
        }
        String kind = kinds.get(b).get(k);
        return i < 0 || i >= kind.length() ? NONE : kind.charAt(i);
    }

    int change(int b, int s, int w, int k) {
        if (!isWord(b, s, w) || !isKind(b, k)) {
            return UNKNOWN;
        }
        int was = kindOf(b, s, w);
        books.get(b).get(s).words.set(w, kinds.get(b).get(k));
        return was;
    }

    int fast(int i, int j) {
        if (!isSentence(0, i) || !isSentence(1, j)) {
            return UNKNOWN;
        }
        for (Cell p : pairs) {
            int di = i - p.x;
            int dj = j - p.y;
            if (di == 0 || dj == 0 || Integer.signum(di) != Integer.signum(dj) && !(Math.abs(di) == 1 && Math.abs(dj) == 1)) {
                return NOT;
            }
        }
        if (pairs.size() == 20) {
            return FULL;
        }
        pairs.add(new Cell(i, j));
        return pairs.size();
    }

    int loosen(int i) {
        if (!isSentence(0, i)) {
            return UNKNOWN;
        }
        return pairs.removeIf(p -> p.x == i) ? 1 : 0;
    }

    int keep(boolean on) {
        int was = kept ? 1 : 0;
        kept = on;
        return was;
    }

    // ---- prices and ways

    /** Which left sentences go with which right ones: lists of {left sentences, right sentences}. */
    private static List<int[][]> groups(Joint t) {
        int[] lefts = LEFTS[t.kind] == 0 ? new int[0] : LEFTS[t.kind] == 1 ? new int[] {t.i} : new int[] {t.i, t.i + 1};
        int[] rights = RIGHTS[t.kind] == 0 ? new int[0] : RIGHTS[t.kind] == 1 ? new int[] {t.j} : new int[] {t.j, t.j + 1};
        if (t.kind == 6) {
            return List.<int[][]>of(new int[][] {{t.i}, {t.j + 1}}, new int[][] {{t.i + 1}, {t.j}});
        }
        return List.<int[][]>of(new int[][] {lefts, rights});
    }

    private List<Integer> kindsOf(int b, int[] sentences) {
        List<Integer> all = new ArrayList<>();
        for (int s : sentences) {
            for (String w : books.get(b).get(s).words) {
                all.add(kinds.get(b).indexOf(w));
            }
        }
        return all;
    }

    private int priceOf(Joint t) {
        int price = BASE[t.kind];
        if (t.kind == 1 || t.kind == 2) {
            return price;
        }
        int friends = 0;
        for (int[][] group : groups(t)) {
            long l = 0;
            long r = 0;
            for (int s : group[0]) {
                l += length(0, s);
            }
            for (int s : group[1]) {
                r += length(1, s);
            }
            long lR = l * length(1);
            long rL = r * length(0);
            long d = Math.abs(lR - rL) * 20 / (lR + rL);
            price += (int) (d * d);
            for (int a : kindsOf(0, group[0])) {
                int p = partnerOf(a);
                friends += p != NONE && kindsOf(1, group[1]).contains(p) ? 1 : 0;
            }
        }
        return price - 15 * Math.min(6, friends);
    }

    private boolean isAllowed(Joint t) {
        int i2 = t.i + LEFTS[t.kind];
        int j2 = t.j + RIGHTS[t.kind];
        if (i2 > books.get(0).size() || j2 > books.get(1).size()) {
            return false;
        }
        for (Cell p : pairs) {
            boolean left = p.x >= t.i && p.x < i2;
            boolean right = p.y >= t.j && p.y < j2;
            if (left != right) {
                return false;
            }
            if (left && t.kind == 6 && p.x - t.i == p.y - t.j) {
                return false;
            }
        }
        for (int k = 0; kept && k < Math.min(count(0, 1), count(1, 1)); k++) {
            int limit = k;
            int e = (int) books.get(0).stream().filter(s -> s.paragraph <= limit).count();
            int f = (int) books.get(1).stream().filter(s -> s.paragraph <= limit).count();
            if (!(i2 <= e && j2 <= f) && !(t.i >= e && t.j >= f)) {
                return false;
            }
        }
        return true;
    }

    /** All ways from there on, those whose first joint that differs is of the lesser kind first. */
    private List<Way> waysFrom(int i, int j) {
        List<Way> all = new ArrayList<>();
        int[][][] prices = new int[7][books.get(0).size() + 1][books.get(1).size() + 1];
        boolean[][][] allowed = new boolean[7][books.get(0).size() + 1][books.get(1).size() + 1];
        for (int kind = 0; kind < 7; kind++) {
            for (int u = i; u <= books.get(0).size(); u++) {
                for (int v = j; v <= books.get(1).size(); v++) {
                    Joint t = new Joint(kind, u, v);
                    allowed[kind][u][v] = isAllowed(t);
                    prices[kind][u][v] = allowed[kind][u][v] ? priceOf(t) : 0;
                }
            }
        }
        walk(i, j, new ArrayList<>(), 0, all, prices, allowed);
        return all;
    }

    private void walk(int i, int j, List<Joint> ahead, int sum, List<Way> all, int[][][] prices, boolean[][][] allowed) {
        if (i == books.get(0).size() && j == books.get(1).size()) {
            all.add(new Way(new ArrayList<>(ahead), sum));
            return;
        }
        for (int kind = 0; kind < 7; kind++) {
            if (allowed[kind][i][j]) {
                ahead.add(new Joint(kind, i, j));
                walk(i + LEFTS[kind], j + RIGHTS[kind], ahead, sum + prices[kind][i][j], all, prices, allowed);
                ahead.remove(ahead.size() - 1);
            }
        }
    }

    private static Way best(List<Way> ways) {
        Way best = null;
        for (Way w : ways) {
            if (best == null || w.sum < best.sum) {
                best = w;
            }
        }
        return best;
    }

    private List<Joint> bestJoints() {
        Way best = best(waysFrom(0, 0));
        return best == null ? List.of() : best.joints;
    }

    int lay() {
        Way best = best(waysFrom(0, 0));
        return best == null ? NONE : best.joints.size();
    }

    int joint(int k, int what) {
        List<Joint> joints = bestJoints();
        if (k < 0 || k >= joints.size()) {
            return UNKNOWN;
        }
        Joint t = joints.get(k);
        int[] all = {t.kind, t.i, t.j, priceOf(t)};
        return what < 0 || what > 3 ? OUTSIDE : all[what];
    }

    int price(int kind, int i, int j) {
        if (kind < 0 || kind > 6) {
            return OUTSIDE;
        }
        for (int u = 0; u < LEFTS[kind]; u++) {
            if (i < 0 || !isSentence(0, i + u)) {
                return UNKNOWN;
            }
        }
        for (int v = 0; v < RIGHTS[kind]; v++) {
            if (j < 0 || !isSentence(1, j + v)) {
                return UNKNOWN;
            }
        }
        return priceOf(new Joint(kind, i, j));
    }

    int rest(int i, int j) {
        if (i < 0 || i > books.get(0).size() || j < 0 || j > books.get(1).size()) {
            return UNKNOWN;
        }
        Way best = best(waysFrom(i, j));
        return best == null ? NOT : best.sum;
    }

    int second() {
        List<Way> ways = waysFrom(0, 0);
        ways.remove(best(ways));
        Way next = best(ways);
        return next == null ? NOT : next.sum;
    }

    int sure(int k, int d) {
        List<Way> ways = waysFrom(0, 0);
        Way best = best(ways);
        if (best == null || k < 0 || k >= best.joints.size()) {
            return UNKNOWN;
        }
        if (d < 0 || d > 10000) {
            return OUTSIDE;
        }
        Joint t = best.joints.get(k);
        return ways.stream().allMatch(w -> w.sum > best.sum + d || w.joints.contains(t)) ? 1 : 0;
    }

    // ---- shares

    private int noWord() {
        return kinds.get(1).size();
    }

    int rounds(int n) {
        if (n < 0 || n > 10) {
            return OUTSIDE;
        }
        for (int r = 0; r < n; r++) {
            if (lay() == NONE) {
                return r;
            }
            round();
        }
        return n;
    }

    private void round() {
        long[][] dealt = new long[shares.length][noWord() + 1];
        for (Joint t : bestJoints()) {
            if (t.kind == 1 || t.kind == 2) {
                continue;
            }
            for (int[][] group : groups(t)) {
                List<Integer> rights = kindsOf(1, group[1]);
                rights.add(noWord());
                for (int a : kindsOf(0, group[0])) {
                    long total = rights.stream().mapToLong(b -> shares[a][b]).sum();
                    for (int b : rights) {
                        dealt[a][b] += total > 0 ? UNIT * shares[a][b] / total : 0;
                    }
                }
            }
        }
        for (int a = 0; a < shares.length; a++) {
            long all = Arrays.stream(dealt[a]).sum();
            for (int b = 0; all > 0 && b <= noWord(); b++) {
                shares[a][b] = UNIT * dealt[a][b] / all;
            }
            obey(a);
        }
    }

    private void obey(int a) {
        if (terms[a] != null) {
            Arrays.fill(shares[a], 0);
            shares[a][terms[a]] = UNIT;
        }
    }

    int share(int a, int b) {
        if (!isKind(0, a) || b != NONE && !isKind(1, b)) {
            return UNKNOWN;
        }
        return (int) shares[a][b == NONE ? noWord() : b];
    }

    private int partnerOf(int a) {
        int best = NONE;
        for (int b = noWord() - 1; b >= 0; b--) {
            if (best == NONE || shares[a][b] >= shares[a][best]) {
                best = b;
            }
        }
        boolean good = best != NONE && shares[a][best] > shares[a][noWord()] && shares[a][best] >= UNIT / 8;
        return good ? best : NONE;
    }

    int partner(int a, int what) {
        if (!isKind(0, a)) {
            return UNKNOWN;
        }
        if (what == 0) {
            return partnerOf(a);
        }
        if (what == 1) {
            return (int) (UNIT - Arrays.stream(shares[a]).sum());
        }
        return what != 2 ? OUTSIDE : terms[a] == null ? NONE : terms[a];
    }

    int term(int a, int b) {
        if (!isKind(0, a) || !isKind(1, b)) {
            return UNKNOWN;
        }
        if (terms[a] != null) {
            terms[a] = null;
            return 0;
        }
        terms[a] = b;
        obey(a);
        return 1;
    }

    int broken() {
        int n = 0;
        for (Joint t : bestJoints()) {
            Set<Integer> lefts = new TreeSet<>();
            Set<Integer> rights = new TreeSet<>();
            for (int[][] group : groups(t)) {
                lefts.addAll(kindsOf(0, group[0]));
                rights.addAll(kindsOf(1, group[1]));
            }
            boolean both = t.kind != 1 && t.kind != 2;
            n += both && lefts.stream().anyMatch(a -> terms[a] != null && !rights.contains(terms[a])) ? 1 : 0;
        }
        return n;
    }

    // ---- links

    private List<Integer> side(int b, Joint t) {
        int from = b == 0 ? t.i : t.j;
        int n = b == 0 ? LEFTS[t.kind] : RIGHTS[t.kind];
        return kindsOf(b, n == 0 ? new int[0] : n == 1 ? new int[] {from} : new int[] {from, from + 1});
    }

    private long shareOf(Joint t, int x, int y) {
        return shares[side(0, t).get(x)][side(1, t).get(y)];
    }

    private int fromLeft(Joint t, int x) {
        int best = NONE;
        for (int y = 0; y < side(1, t).size(); y++) {
            long more = best == NONE ? 1 : shareOf(t, x, y) - shareOf(t, x, best);
            if (more > 0 || more == 0 && Math.abs(x - y) < Math.abs(x - best)) {
                best = y;
            }
        }
        return best != NONE && shareOf(t, x, best) > shares[side(0, t).get(x)][noWord()] ? best : NONE;
    }

    private int fromRight(Joint t, int y) {
        int best = NONE;
        for (int x = 0; x < side(0, t).size(); x++) {
            long more = best == NONE ? 1 : shareOf(t, x, y) - shareOf(t, best, y);
            if (more > 0 || more == 0 && Math.abs(x - y) < Math.abs(y - best)) {
                best = x;
            }
        }
        return best != NONE && shareOf(t, best, y) > 0 ? best : NONE;
    }

    private static boolean hasLinks(Joint t) {
        return t.kind != 1 && t.kind != 2 && t.kind != 6;
    }

    int link(int k, int way, int x) {
        List<Joint> joints = bestJoints();
        if (k < 0 || k >= joints.size()) {
            return UNKNOWN;
        }
        Joint t = joints.get(k);
        if (way < 0 || way > 1) {
            return OUTSIDE;
        }
        if (x < 0 || x >= side(way, t).size()) {
            return UNKNOWN;
        }
        if (!hasLinks(t)) {
            return NOT;
        }
        return way == 0 ? fromLeft(t, x) : fromRight(t, x);
    }

    private Set<Cell> both(Joint t) {
        Set<Cell> cells = new HashSet<>();
        for (int x = 0; x < side(0, t).size(); x++) {
            int y = fromLeft(t, x);
            if (y != NONE && fromRight(t, y) == x) {
                cells.add(new Cell(x, y));
            }
        }
        return cells;
    }

    private Set<Cell> grown(Joint t) {
        Set<Cell> grown = both(t);
        Set<Cell> either = new HashSet<>();
        for (int x = 0; x < side(0, t).size(); x++) {
            either.add(new Cell(x, fromLeft(t, x)));
        }
        for (int y = 0; y < side(1, t).size(); y++) {
            either.add(new Cell(fromRight(t, y), y));
        }
        int before;
        do {
            before = grown.size();
            for (int x = 0; x < side(0, t).size(); x++) {
                for (int y = 0; y < side(1, t).size(); y++) {
                    Cell c = new Cell(x, y);
                    boolean near = grown.stream().anyMatch(g -> Math.abs(g.x - c.x) <= 1 && Math.abs(g.y - c.y) <= 1);
                    boolean freeX = grown.stream().noneMatch(g -> g.x == c.x);
                    boolean freeY = grown.stream().noneMatch(g -> g.y == c.y);
                    if (either.contains(c) && near && (freeX || freeY)) {
                        grown.add(c);
                    }
                }
            }
        } while (grown.size() > before);
        return grown;
    }

    int linked(int k, int what, int x, int y) {
        List<Joint> joints = bestJoints();
        if (k < 0 || k >= joints.size()) {
            return UNKNOWN;
        }
        Joint t = joints.get(k);
        if (x < 0 || x >= side(0, t).size() || y < 0 || y >= side(1, t).size()) {
            return UNKNOWN;
        }
        if (what < 0 || what > 1) {
            return OUTSIDE;
        }
        if (!hasLinks(t)) {
            return NOT;
        }
        return (what == 0 ? both(t) : grown(t)).contains(new Cell(x, y)) ? 1 : 0;
    }

    int phrases(int k) {
        List<Joint> joints = bestJoints();
        if (k < 0 || k >= joints.size()) {
            return UNKNOWN;
        }
        Joint t = joints.get(k);
        if (!hasLinks(t)) {
            return NOT;
        }
        Set<Cell> grown = grown(t);
        int n = 0;
        for (int x1 = 0; x1 < side(0, t).size(); x1++) {
            for (int x2 = x1; x2 < side(0, t).size() && x2 <= x1 + 3; x2++) {
                for (int y1 = 0; y1 < side(1, t).size(); y1++) {
                    for (int y2 = y1; y2 < side(1, t).size() && y2 <= y1 + 3; y2++) {
                        n += goTogether(grown, x1, x2, y1, y2) ? 1 : 0;
                    }
                }
            }
        }
        return n;
    }

    private static boolean goTogether(Set<Cell> grown, int x1, int x2, int y1, int y2) {
        boolean some = false;
        for (Cell g : grown) {
            boolean inX = g.x >= x1 && g.x <= x2;
            boolean inY = g.y >= y1 && g.y <= y2;
            if (inX != inY) {
                return false;
            }
            some |= inX;
        }
        return some;
    }

    // ---- the desk

    private static boolean isSlot(int s) {
        return s >= 0 && s < 8;
    }

    int putSentence(int s, int b, int i) {
        if (!isSlot(s) || !isSentence(b, i)) {
            return UNKNOWN;
        }
        desk[s] = new Thing();
        desk[s].sort = 1;
        desk[s].kinds = kindsOf(b, new int[] {i});
        return 1;
    }

    int putJoint(int s, int k) {
        List<Joint> joints = bestJoints();
        if (!isSlot(s) || k < 0 || k >= joints.size()) {
            return UNKNOWN;
        }
        desk[s] = new Thing();
        desk[s].sort = 2;
        desk[s].price = priceOf(joints.get(k));
        desk[s].leftWords = side(0, joints.get(k)).size();
        return 1;
    }

    int putRow(int s, int n) {
        if (!isSlot(s)) {
            return UNKNOWN;
        }
        if (n > 30) {
            return OUTSIDE;
        }
        code = n < 0 ? 4 : 0;
        if (n < 0) {
            return 0;
        }
        desk[s] = new Thing();
        desk[s].sort = 3;
        desk[s].row = new int[n];
        return n;
    }

    int clear(int s) {
        if (!isSlot(s)) {
            return UNKNOWN;
        }
        int had = desk[s] == null ? 0 : 1;
        desk[s] = null;
        return had;
    }

    int sort(int s) {
        return !isSlot(s) ? UNKNOWN : desk[s] == null ? 0 : desk[s].sort;
    }

    private int codeOf(int s, int sort) {
        return desk[s] == null ? 1 : desk[s].sort != sort ? 2 : 0;
    }

    int write(int s, int i, int v) {
        int was = read(s, i);
        if (isSlot(s) && code == 0) {
            desk[s].row[i] = v;
        }
        return was;
    }

    int read(int s, int i) {
        if (!isSlot(s)) {
            return UNKNOWN;
        }
        code = codeOf(s, 3);
        if (code == 0 && (i < 0 || i >= desk[s].row.length)) {
            code = 3;
        }
        return code == 0 ? desk[s].row[i] : 0;
    }

    int spell(int s, int r, int i) {
        if (!isSlot(s) || !isSlot(r)) {
            return UNKNOWN;
        }
        code = codeOf(s, 1);
        code = code == 0 ? codeOf(r, 3) : code;
        if (code != 0) {
            return 0;
        }
        int[] row = desk[r].row;
        List<Integer> from = desk[s].kinds;
        if (i < 0 || i >= row.length) {
            code = 3;
            return 0;
        }
        for (int w = 0; w < from.size(); w++) {
            if (i + w >= row.length) {
                code = 3;
                return 0;
            }
            row[i + w] = from.get(w);
        }
        return from.size();
    }

    int rate(int s) {
        if (!isSlot(s)) {
            return UNKNOWN;
        }
        code = codeOf(s, 2);
        if (code == 0 && desk[s].leftWords == 0) {
            code = 6;
        }
        return code == 0 ? 100 * desk[s].price / desk[s].leftWords : 0;
    }

    int code() {
        return code;
    }
}
