import java.math.BigInteger;
import java.util.ArrayDeque;
import java.util.ArrayList;
import java.util.Arrays;
import java.util.List;
import java.util.regex.Matcher;
import java.util.regex.Pattern;

/**
 * The document once more, in its plainest form: everything by definition, over whole colourings,
 * without a thought for speed or room. RandomRunsTest holds HatNet against it.
 */
public final class NaiveHatNet {
    private static final int NONE = -1;

    private static final class State {
        int n;
        int[] h = new int[0];
        boolean[][] sees = new boolean[0][0];
        int[][] table = new int[0][];

        State copy() {
            State s = new State();
            s.n = n;
            s.h = h.clone();
            s.sees = new boolean[n][];
            s.table = new int[n][];
            for (int p = 0; p < n; p++) {
                s.sees[p] = sees[p].clone();
                s.table[p] = table[p].clone();
            }
            return s;
        }
    }

    private static final class Fault extends Exception {
        private static final long serialVersionUID = 1;
        final int kind;
        final int at;

        Fault(int kind, int at) {
            this.kind = kind;
            this.at = at;
        }
    }

    private record Token(char kind, String text, int at) {
        int number() {
            return Integer.parseInt(text);
        }
    }

    private State g = new State();
    private final ArrayDeque<State> past = new ArrayDeque<>();
    private StringBuilder tape = new StringBuilder();
    private String out = "";
    private int status = 0;
    private int faultKind = NONE;
    private int faultAt = NONE;

    private int ok(int v) {
        status = 0;
        return v;
    }

    private int no(int kind) {
        status = kind;
        return NONE;
    }

    public int status() {
        return status;
    }

    public int feed(int a, int b, int c, int d, int e) {
        if (tape.length() + 20 > 600) {
            return NONE;
        }
        for (int v : new int[] {a, b, c, d, e}) {
            for (int i = 3; i >= 0; i--) {
                tape.append((char) (v >>> (8 * i) & 255));
            }
        }
        return tape.length();
    }

    public int fault(int what) {
        return what == 0 ? faultKind : what == 1 ? faultAt : NONE;
    }

    public int load(int n) {
        if (n < 0 || n > tape.length()) {
            return no(1);
        }
        String text = tape.substring(0, n);
        tape = new StringBuilder();
        try {
            g = parse(text);
            past.clear();
            faultKind = 0;
            faultAt = NONE;
            return ok(g.n);
        } catch (Fault f) {
            faultKind = f.kind;
            faultAt = f.at;
            return no(9);
        }
    }

    // ---- reading

    private static final Pattern PIECE = Pattern.compile("[ \n]+|[a-z]+|[0-9]+|(?s:.)");

    private static List<Token> split(String text) {
        List<Token> tokens = new ArrayList<>();
        Matcher m = PIECE.matcher(text);
        while (m.find()) {
            String s = m.group();
            if (s.matches("[ \n]+")) {
                continue;
            }
            char kind = s.matches("[a-z]{1,8}") ? 'w' : s.matches("[0-9]{1,2}") ? 'n'
                : s.equals(";") ? ';' : '?';
            tokens.add(new Token(kind, s, m.start()));
        }
        tokens.add(new Token('.', "", text.length()));
        return tokens;
    }

    private List<Token> line;
    private int cursor;

    private Token need(char kind) throws Fault {
        Token t = line.get(cursor);
        if (t.kind() == '?') {
            throw new Fault(1, t.at());
        }
        if (t.kind() != kind) {
            throw new Fault(2, t.at());
        }
        cursor++;
        return t;
    }

    private int number(int least, int most) throws Fault {
        Token t = need('n');
        if (t.number() < least || t.number() > most) {
            throw new Fault(3, t.at());
        }
        return t.number();
    }

    private int lastAt() {
        return line.get(cursor - 1).at();
    }

    private State parse(String text) throws Fault {
        line = split(text);
        cursor = 0;
        State s = new State();
        boolean[] hatted = new boolean[6];
        boolean[] guessed = new boolean[6];
        boolean guessing = false;
        while (line.get(cursor).kind() != '.') {
            Token word = need('w');
            Fault here = new Fault(2, word.at());
            switch (word.text()) {
                case "players" -> {
                    if (s.n > 0) {
                        throw here;
                    }
                    s.n = number(1, 6);
                    s.h = new int[s.n];
                    Arrays.fill(s.h, 2);
                    s.sees = new boolean[s.n][s.n];
                    s.table = new int[s.n][];
                }
                case "hats" -> {
                    if (s.n == 0 || guessing) {
                        throw here;
                    }
                    int p = number(0, s.n - 1);
                    if (hatted[p]) {
                        throw new Fault(4, lastAt());
                    }
                    hatted[p] = true;
                    s.h[p] = number(1, 4);
                }
                case "link", "sees" -> {
                    if (s.n == 0 || guessing) {
                        throw here;
                    }
                    int p = number(0, s.n - 1);
                    int q = number(0, s.n - 1);
                    if (p == q) {
                        throw new Fault(3, lastAt());
                    }
                    boolean link = word.text().equals("link");
                    if (s.sees[p][q] || link && s.sees[q][p]) {
                        throw new Fault(4, lastAt());
                    }
                    s.sees[p][q] = true;
                    s.sees[q][p] |= link;
                }
                case "guess" -> {
                    if (s.n == 0) {
                        throw here;
                    }
                    guessing = true;
                    int p = number(0, s.n - 1);
                    if (guessed[p]) {
                        throw new Fault(4, lastAt());
                    }
                    guessed[p] = true;
                    rule(s, p);
                }
                default -> throw here;
            }
            need(';');
        }
        for (int p = 0; p < s.n; p++) {
            if (s.table[p] == null) {
                s.table[p] = new int[situations(s, p)];
            }
        }
        return s;
    }

    private void rule(State s, int p) throws Fault {
        Token word = need('w');
        int[] t = new int[situations(s, p)];
        s.table[p] = t;
        switch (word.text()) {
            case "sum" -> {
                int k = number(0, 99);
                for (int[] c : all(s)) {
                    int sum = k;
                    for (int q = 0; q < s.n; q++) {
                        sum -= s.sees[p][q] ? c[q] : 0;
                    }
                    t[sit(s, p, c)] = ((sum % s.h[p]) + s.h[p]) % s.h[p];
                }
            }
            case "same", "next" -> {
                int q = number(0, s.n - 1);
                if (!s.sees[p][q]) {
                    throw new Fault(3, lastAt());
                }
                int more = word.text().equals("next") ? 1 : 0;
                for (int[] c : all(s)) {
                    t[sit(s, p, c)] = (c[q] + more) % s.h[p];
                }
            }
            case "fixed" -> Arrays.fill(t, number(0, s.h[p] - 1));
            case "table" -> {
                for (int i = 0; i < t.length; i++) {
                    t[i] = number(0, s.h[p] - 1);
                }
            }
            default -> throw new Fault(2, word.at());
        }
    }

    // ---- basics, over whole colourings

    private static List<int[]> all(State s) {
        List<int[]> list = new ArrayList<>();
        if (s.n > 0) {
            fill(s, new int[s.n], 0, list);
        }
        return list;
    }

    private static void fill(State s, int[] c, int p, List<int[]> list) {
        if (p == s.n) {
            list.add(c.clone());
            return;
        }
        for (int v = 0; v < s.h[p]; v++) {
            c[p] = v;
            fill(s, c, p + 1, list);
        }
    }

    private static int situations(State s, int p) {
        int many = 1;
        for (int q = 0; q < s.n; q++) {
            many *= s.sees[p][q] ? s.h[q] : 1;
        }
        return many;
    }

    private static int sit(State s, int p, int[] c) {
        int number = 0;
        for (int q = 0; q < s.n; q++) {
            if (s.sees[p][q]) {
                number = number * s.h[q] + c[q];
            }
        }
        return number;
    }

    private static int says(State s, int p, int[] c) {
        return s.table[p][sit(s, p, c)];
    }

    private static int with(State s, int p, int[] c, int q, int colour) {
        int[] d = c.clone();
        d[q] = colour;
        return says(s, p, d);
    }

    private static boolean isRight(State s, int p, int[] c) {
        return says(s, p, c) == c[p];
    }

    private static int rightBits(State s, int[] c) {
        int bits = 0;
        for (int p = 0; p < s.n; p++) {
            bits |= isRight(s, p, c) ? 1 << p : 0;
        }
        return bits;
    }

    private static int lostOf(State s) {
        int lost = 0;
        for (int[] c : all(s)) {
            lost += rightBits(s, c) == 0 ? 1 : 0;
        }
        return lost;
    }

    private boolean noP(int p) {
        return p < 0 || p >= g.n;
    }

    private boolean noC(int p, int c) {
        return noP(p) || c < 0 || c >= g.h[p];
    }

    private boolean noS(int p, int s) {
        return noP(p) || s < 0 || s >= situations(g, p);
    }

    private boolean noX(int x) {
        return x < 0 || x >= all(g).size();
    }

    private boolean noSet(int set) {
        return set < 1 || set > (1 << g.n) - 1;
    }

    private static boolean in(int set, int p) {
        return (set >> p & 1) == 1;
    }

    private int pair(int p, int q, boolean seen) {
        if (noP(p) || noP(q)) {
            return 2;
        }
        if (p == q) {
            return 4;
        }
        return seen && !g.sees[p][q] ? 7 : 0;
    }

    public int many(int what) {
        int sights = 0;
        int links = 0;
        for (int p = 0; p < g.n; p++) {
            for (int q = 0; q < g.n; q++) {
                sights += g.sees[p][q] ? 1 : 0;
                links += p < q && g.sees[p][q] && g.sees[q][p] ? 1 : 0;
            }
        }
        return switch (what) {
            case 0 -> ok(g.n);
            case 1 -> ok(all(g).size());
            case 2 -> ok(sights);
            case 3 -> ok(links);
            case 4 -> ok(past.size());
            case 5 -> ok(mutual() ? 1 : 0);
            default -> no(1);
        };
    }

    private boolean mutual() {
        for (int p = 0; p < g.n; p++) {
            for (int q = 0; q < g.n; q++) {
                if (g.sees[p][q] && !g.sees[q][p]) {
                    return false;
                }
            }
        }
        return true;
    }

    public int player(int p, int what) {
        if (what < 0 || what > 3) {
            return no(1);
        }
        if (noP(p)) {
            return no(2);
        }
        int saw = 0;
        int by = 0;
        for (int q = 0; q < g.n; q++) {
            saw += g.sees[p][q] ? 1 << q : 0;
            by += g.sees[q][p] ? 1 << q : 0;
        }
        return ok(new int[] {g.h[p], saw, by, g.table[p].length}[what]);
    }

    public int guess(int p, int s) {
        return noS(p, s) ? no(2) : ok(g.table[p][s]);
    }

    public int situation(int p, int x) {
        return noP(p) || noX(x) ? no(2) : ok(sit(g, p, all(g).get(x)));
    }

    public int colour(int p, int x) {
        return noP(p) || noX(x) ? no(2) : ok(all(g).get(x)[p]);
    }

    public int often(int p, int colour) {
        return noC(p, colour) ? no(2)
            : ok((int) Arrays.stream(g.table[p]).filter(v -> v == colour).count());
    }

    private int fooledIn(int p, int q) {
        int many = 0;
        for (int[] c : all(g)) {
            boolean otherwise = false;
            for (int v = 0; v < g.h[q]; v++) {
                otherwise |= with(g, p, c, q, v) != says(g, p, c);
            }
            many += otherwise ? 1 : 0;
        }
        return many;
    }

    public int heeds(int p, int q) {
        int t = pair(p, q, true);
        return t != 0 ? no(t) : ok(fooledIn(p, q) > 0 ? 1 : 0);
    }

    public int heeded(int p) {
        if (noP(p)) {
            return no(2);
        }
        int bits = 0;
        for (int q = 0; q < g.n; q++) {
            bits |= q != p && fooledIn(p, q) > 0 ? 1 << q : 0;
        }
        return ok(bits);
    }

    public int fooled(int p, int q) {
        int t = pair(p, q, true);
        return t != 0 ? no(t) : ok(fooledIn(p, q));
    }

    // ---- colourings

    public int right(int x) {
        return noX(x) ? no(2) : ok(rightBits(g, all(g).get(x)));
    }

    private List<Integer> lostOnes() {
        List<Integer> lost = new ArrayList<>();
        List<int[]> every = all(g);
        for (int x = 0; x < every.size(); x++) {
            if (rightBits(g, every.get(x)) == 0) {
                lost.add(x);
            }
        }
        return lost;
    }

    public int lost(int k) {
        if (k < NONE) {
            return no(1);
        }
        List<Integer> lost = lostOnes();
        if (k == NONE) {
            return ok(lost.size());
        }
        return k < lost.size() ? ok(lost.get(k)) : no(5);
    }

    private int rightBetween(int from, int to) {
        int many = 0;
        for (int[] c : all(g)) {
            int r = Integer.bitCount(rightBits(g, c));
            many += r >= from && r <= to ? 1 : 0;
        }
        return many;
    }

    public int exact(int m) {
        return m < 0 || m > 6 ? no(1) : ok(rightBetween(m, m));
    }

    public int atLeast(int m) {
        return m < 0 || m > 6 ? no(1) : ok(rightBetween(m, 99));
    }

    public int alone(int p) {
        if (noP(p)) {
            return no(2);
        }
        int many = 0;
        for (int[] c : all(g)) {
            boolean alone = isRight(g, p, c);
            for (int q = 0; q < g.n; q++) {
                alone &= q == p || !isRight(g, q, c);
            }
            many += alone ? 1 : 0;
        }
        return ok(many);
    }

    public int both(int p, int q) {
        int t = pair(p, q, false);
        if (t != 0) {
            return no(t);
        }
        int many = 0;
        for (int[] c : all(g)) {
            many += isRight(g, p, c) && isRight(g, q, c) ? 1 : 0;
        }
        return ok(many);
    }

    private int lostBy(int set) {
        int many = 0;
        for (int[] c : all(g)) {
            boolean any = false;
            for (int p = 0; p < g.n; p++) {
                any |= in(set, p) && isRight(g, p, c);
            }
            many += any ? 0 : 1;
        }
        return many;
    }

    public int without(int set) {
        return noSet(set) ? no(2) : ok(lostBy(set));
    }

    public int together(int set) {
        if (noSet(set)) {
            return no(2);
        }
        int many = 0;
        for (int[] c : all(g)) {
            boolean every = true;
            for (int p = 0; p < g.n; p++) {
                every &= !in(set, p) || isRight(g, p, c);
            }
            many += every ? 1 : 0;
        }
        return ok(many);
    }

    public int crowd(int what) {
        if (what < 0 || what > 2) {
            return no(1);
        }
        if (g.n == 0) {
            return no(5);
        }
        int most = -1;
        int first = -1;
        int many = 0;
        List<int[]> every = all(g);
        for (int x = 0; x < every.size(); x++) {
            int r = Integer.bitCount(rightBits(g, every.get(x)));
            if (r > most) {
                most = r;
                first = x;
                many = 0;
            }
            many += r == most ? 1 : 0;
        }
        return ok(new int[] {most, first, many}[what]);
    }

    public int twice() {
        int lost = 0;
        for (int[] c : all(g)) {
            boolean any = false;
            for (int p = 0; p < g.n; p++) {
                int v = says(g, p, c);
                any |= v == c[p] || (v + 1) % g.h[p] == c[p];
            }
            lost += any ? 0 : 1;
        }
        return ok(lost);
    }

    private static State unseen(State s, int p, int q) {
        State t = s.copy();
        t.sees[p][q] = false;
        t.table[p] = new int[situations(t, p)];
        for (int[] c : all(s)) {
            t.table[p][sit(t, p, c)] = with(s, p, c, q, 0);
        }
        return t;
    }

    private static State seen(State s, int p, int q) {
        State t = s.copy();
        t.sees[p][q] = true;
        t.table[p] = new int[situations(t, p)];
        for (int[] c : all(s)) {
            t.table[p][sit(t, p, c)] = says(s, p, c);
        }
        return t;
    }

    public int blinded(int p, int q) {
        int t = pair(p, q, true);
        return t != 0 ? no(t) : ok(lostOf(unseen(g, p, q)));
    }

    public int weakest(boolean lost) {
        int pair = -1;
        int most = -1;
        for (int code = 0; code < 36; code++) {
            int p = code / 6;
            int q = code % 6;
            if (p < g.n && q < g.n && g.sees[p][q]) {
                int then = lostOf(unseen(g, p, q));
                if (then > most) {
                    most = then;
                    pair = code;
                }
            }
        }
        return pair < 0 ? no(5) : ok(lost ? most : pair);
    }

    public int needed() {
        for (int size = 1; size <= g.n; size++) {
            for (int set = 1; set < 1 << g.n; set++) {
                if (Integer.bitCount(set) == size && lostBy(set) <= lostOf(g)) {
                    return ok(set);
                }
            }
        }
        return no(5);
    }

    public int known(int p, int colour) {
        if (noC(p, colour)) {
            return no(2);
        }
        int many = 0;
        for (int[] c : all(g)) {
            many += rightBits(g, c) == 0 && c[p] == colour ? 1 : 0;
        }
        return ok(many);
    }

    public int nearest(int x, int what) {
        if (what < 0 || what > 1) {
            return no(1);
        }
        if (noX(x)) {
            return no(2);
        }
        List<int[]> every = all(g);
        for (int d = 0; d <= g.n; d++) {
            for (int y : lostOnes()) {
                int differ = 0;
                for (int p = 0; p < g.n; p++) {
                    differ += every.get(x)[p] != every.get(y)[p] ? 1 : 0;
                }
                if (differ == d) {
                    return ok(what == 0 ? d : y);
                }
            }
        }
        return no(5);
    }

    // ---- bounds

    private boolean[][] reach(boolean links) {
        boolean[][] r = new boolean[g.n][g.n];
        for (int p = 0; p < g.n; p++) {
            for (int q = 0; q < g.n; q++) {
                r[p][q] = g.sees[p][q] && (!links || g.sees[q][p]);
            }
        }
        for (int k = 0; k < g.n; k++) {
            for (int p = 0; p < g.n; p++) {
                for (int q = 0; q < g.n; q++) {
                    r[p][q] |= r[p][k] && r[k][q];
                }
            }
        }
        return r;
    }

    private boolean isAcyclic() {
        boolean[][] r = reach(false);
        for (int p = 0; p < g.n; p++) {
            if (r[p][p]) {
                return false;
            }
        }
        return true;
    }

    public int acyclic() {
        return ok(isAcyclic() ? 1 : 0);
    }

    public int always() {
        if (g.n == 0 || !isAcyclic()) {
            return no(5);
        }
        BigInteger above = BigInteger.valueOf(all(g).size());
        for (int p = 0; p < g.n; p++) {
            above = above.multiply(BigInteger.valueOf(g.h[p] - 1));
        }
        for (int p = 0; p < g.n; p++) {
            above = above.divide(BigInteger.valueOf(g.h[p]));
        }
        return ok(above.intValueExact());
    }

    private boolean isClique(int set) {
        for (int p = 0; p < g.n; p++) {
            for (int q = 0; q < g.n; q++) {
                if (p != q && in(set, p) && in(set, q) && !g.sees[p][q]) {
                    return false;
                }
            }
        }
        return true;
    }

    public int blind() {
        for (int size = g.n; size > 0; size--) {
            for (int set = 1; set < 1 << g.n; set++) {
                boolean none = Integer.bitCount(set) == size;
                for (int p = 0; p < g.n; p++) {
                    for (int q = 0; q < g.n; q++) {
                        none &= !(in(set, p) && in(set, q) && g.sees[p][q]);
                    }
                }
                if (none) {
                    return ok(set);
                }
            }
        }
        return no(5);
    }

    /** Above and below, in lowest terms. */
    private BigInteger[] shareOf(int set) {
        BigInteger above = BigInteger.ZERO;
        BigInteger below = BigInteger.ONE;
        for (int p = 0; p < g.n; p++) {
            if (in(set, p)) {
                BigInteger h = BigInteger.valueOf(g.h[p]);
                above = above.multiply(h).add(below);
                below = below.multiply(h);
            }
        }
        BigInteger common = above.gcd(below);
        return new BigInteger[] {above.divide(common), below.divide(common)};
    }

    private int compareShares(int a, int b) {
        BigInteger[] x = shareOf(a);
        BigInteger[] y = shareOf(b);
        return x[0].multiply(y[1]).compareTo(y[0].multiply(x[1]));
    }

    public int share(int set, int what) {
        if (what < 0 || what > 1) {
            return no(1);
        }
        return noSet(set) ? no(2) : ok(shareOf(set)[what].intValueExact());
    }

    public int least() {
        BigInteger[] s = shareOf((1 << g.n) - 1);
        BigInteger x = BigInteger.valueOf(all(g).size());
        BigInteger left = x.subtract(x.multiply(s[0]).divide(s[1]));
        return ok(left.max(BigInteger.ZERO).intValueExact());
    }

    public int clique() {
        for (int size = g.n; size > 0; size--) {
            for (int set = 1; set < 1 << g.n; set++) {
                if (Integer.bitCount(set) == size && isClique(set)) {
                    return ok(set);
                }
            }
        }
        return no(5);
    }

    public int strongest() {
        int found = 0;
        for (int set = 1; set < 1 << g.n; set++) {
            if (isClique(set) && (found == 0 || compareShares(set, found) > 0)) {
                found = set;
            }
        }
        return found == 0 ? no(5) : ok(found);
    }

    public int sure() {
        int many = 0;
        for (int set = 1; set < 1 << g.n; set++) {
            BigInteger[] s = shareOf(set);
            many += isClique(set) && s[0].compareTo(s[1]) >= 0 ? 1 : 0;
        }
        return ok(many);
    }

    // ---- ways to guess

    private static int[] bestTable(State s, int p) {
        int[][] lost = new int[situations(s, p)][s.h[p]];
        for (int[] c : all(s)) {
            boolean others = (rightBits(s, c) & ~(1 << p)) != 0;
            for (int v = 0; v < s.h[p]; v++) {
                lost[sit(s, p, c)][v] += !others && c[p] != v ? 1 : 0;
            }
        }
        int[] best = new int[lost.length];
        for (int i = 0; i < best.length; i++) {
            for (int v = 1; v < s.h[p]; v++) {
                best[i] = lost[i][v] < lost[i][best[i]] ? v : best[i];
            }
        }
        return best;
    }

    private static State withBest(State s, int p) {
        State t = s.copy();
        t.table[p] = bestTable(s, p);
        return t;
    }

    public int best(int p) {
        return noP(p) ? no(2) : ok(lostOf(withBest(g, p)));
    }

    public int bestAt(int p, int s) {
        return noS(p, s) ? no(2) : ok(bestTable(g, p)[s]);
    }

    public int bettered() {
        int by = -1;
        int fewest = Integer.MAX_VALUE;
        for (int p = 0; p < g.n; p++) {
            int then = lostOf(withBest(g, p));
            if (then < fewest) {
                fewest = then;
                by = p;
            }
        }
        return by < 0 ? no(5) : ok(by);
    }

    private int won;
    private int fewestLost;

    private void everyWay(State s, int p, int i) {
        if (p == s.n) {
            int lost = lostOf(s);
            won += lost == 0 ? 1 : 0;
            fewestLost = Math.min(fewestLost, lost);
        } else if (i == s.table[p].length) {
            everyWay(s, p + 1, 0);
        } else {
            for (int v = 0; v < s.h[p]; v++) {
                s.table[p][i] = v;
                everyWay(s, p, i + 1);
            }
        }
    }

    public int ways(int what) {
        if (what < 0 || what > 2) {
            return no(1);
        }
        BigInteger many = BigInteger.ONE;
        for (int p = 0; p < g.n; p++) {
            many = many.multiply(BigInteger.valueOf(g.h[p]).pow(situations(g, p)));
        }
        if (many.compareTo(BigInteger.valueOf(20000)) > 0) {
            return no(3);
        }
        if (what == 0) {
            return ok(many.intValueExact());
        }
        won = 0;
        fewestLost = Integer.MAX_VALUE;
        everyWay(g.copy(), 0, 0);
        return ok(what == 1 ? won : fewestLost);
    }

    private static State drawn(State s, int seed) {
        State t = s.copy();
        BigInteger whole = BigInteger.ONE.shiftLeft(64);
        BigInteger x = BigInteger.valueOf(seed);
        for (int p = 0; p < t.n; p++) {
            for (int i = 0; i < t.table[p].length; i++) {
                x = x.multiply(new BigInteger("6364136223846793005"))
                    .add(new BigInteger("1442695040888963407")).mod(whole);
                t.table[p][i] = x.shiftRight(33).mod(BigInteger.valueOf(t.h[p])).intValue();
            }
        }
        return t;
    }

    private int took;

    private State improved(State s) {
        State t = s;
        took = 0;
        int before = -1;
        while (before != took) {
            before = took;
            for (int p = 0; p < t.n; p++) {
                State then = withBest(t, p);
                if (lostOf(then) < lostOf(t)) {
                    t = then;
                    took++;
                }
            }
        }
        return t;
    }

    public int search(int s, int n, int what) {
        if (s < 0 || s > 999999999 || n < 1 || n > 10 || what < 0 || what > 1) {
            return no(1);
        }
        if (g.n == 0) {
            return no(5);
        }
        int fewest = Integer.MAX_VALUE;
        int seed = -1;
        for (int i = s; i < s + n; i++) {
            int lost = lostOf(improved(drawn(g, i)));
            if (lost < fewest) {
                fewest = lost;
                seed = i;
            }
        }
        return ok(what == 0 ? fewest : seed);
    }

    // ---- renumbered

    private boolean isRenumbering(int[] to) {
        for (int p = 0; p < g.n; p++) {
            for (int q = 0; q < g.n; q++) {
                if (g.h[p] != g.h[to[p]] || g.sees[p][q] != g.sees[to[p]][to[q]]) {
                    return false;
                }
            }
        }
        return true;
    }

    private boolean keeps(int[] to) {
        for (int[] c : all(g)) {
            int[] d = new int[g.n];
            for (int p = 0; p < g.n; p++) {
                d[to[p]] = c[p];
            }
            for (int p = 0; p < g.n; p++) {
                if (says(g, p, c) != says(g, to[p], d)) {
                    return false;
                }
            }
        }
        return true;
    }

    private void orders(int[] to, int p, int used, List<int[]> list) {
        if (p == g.n) {
            list.add(to.clone());
            return;
        }
        for (int q = 0; q < g.n; q++) {
            if (!in(used, q)) {
                to[p] = q;
                orders(to, p + 1, used | 1 << q, list);
            }
        }
    }

    public int renumber(int what) {
        if (what < 0 || what > 1) {
            return no(1);
        }
        List<int[]> list = new ArrayList<>();
        orders(new int[g.n], 0, 0, list);
        int many = 0;
        for (int[] to : list) {
            many += isRenumbering(to) && (what == 0 || keeps(to)) ? 1 : 0;
        }
        return ok(many);
    }

    public int alike(int p, int q) {
        int t = pair(p, q, false);
        if (t != 0) {
            return no(t);
        }
        int[] to = new int[g.n];
        for (int r = 0; r < g.n; r++) {
            to[r] = r == p ? q : r == q ? p : r;
        }
        return ok(isRenumbering(to) && keeps(to) ? 1 : 0);
    }

    // ---- networks

    public int far(int p, int q) {
        if (noP(p) || noP(q)) {
            return no(2);
        }
        int[] d = new int[g.n];
        Arrays.fill(d, 99);
        d[p] = 0;
        for (int round = 0; round < g.n; round++) {
            for (int a = 0; a < g.n; a++) {
                for (int b = 0; b < g.n; b++) {
                    if (g.sees[a][b]) {
                        d[b] = Math.min(d[b], d[a] + 1);
                    }
                }
            }
        }
        return d[q] >= 99 ? no(5) : ok(d[q]);
    }

    /** In how many ways one comes along LINKS from p to q, no PLAYER twice. */
    private int paths(int p, int q, int used) {
        if (p == q) {
            return 1;
        }
        int many = 0;
        for (int r = 0; r < g.n; r++) {
            if (g.sees[p][r] && !in(used, r)) {
                many += paths(r, q, used | 1 << r);
            }
        }
        return many;
    }

    private boolean isTree() {
        for (int p = 0; p < g.n; p++) {
            for (int q = 0; q < g.n; q++) {
                if (p != q && paths(p, q, 1 << p) != 1) {
                    return false;
                }
            }
        }
        return mutual();
    }

    /** Whether a SET, gone round in some order, has just the LINKS from each to the next one. */
    private boolean isRing(int set) {
        int size = Integer.bitCount(set);
        if (size < 3) {
            return false;
        }
        List<int[]> list = new ArrayList<>();
        orders(new int[g.n], 0, 0, list);
        for (int[] order : list) {
            boolean fits = true;
            for (int i = 0; i < size && fits; i++) {
                fits = in(set, order[i]);
                for (int j = 0; j < size && fits; j++) {
                    boolean next = (i + 1) % size == j || (j + 1) % size == i;
                    fits = i == j || g.sees[order[i]][order[j]] == next;
                }
            }
            if (fits) {
                return true;
            }
        }
        return false;
    }

    private int firstHub() {
        for (int p = 0; p < g.n && mutual(); p++) {
            boolean all = true;
            for (int q = 0; q < g.n; q++) {
                all &= q == p || g.sees[p][q];
            }
            if (all && isRing((1 << g.n) - 1 & ~(1 << p))) {
                return p;
            }
        }
        return -1;
    }

    public int shape() {
        if (g.n == 0) {
            return no(5);
        }
        int kind = 0;
        int every = (1 << g.n) - 1;
        kind = isTree() ? 1 : kind;
        kind = mutual() && isRing(every) ? 2 : kind;
        kind = firstHub() >= 0 ? 3 : kind;
        kind = g.n >= 4 && isClique(every) ? 4 : kind;
        return ok(kind);
    }

    public int hub() {
        int p = firstHub();
        return p < 0 ? no(5) : ok(p);
    }

    public int part(int p) {
        if (noP(p)) {
            return no(2);
        }
        int bits = 1 << p;
        for (int q = 0; q < g.n; q++) {
            bits |= reach(true)[p][q] ? 1 << q : 0;
        }
        return ok(bits);
    }

    // ---- acts

    private void becomes(State next) {
        past.addLast(g);
        if (past.size() > 6) {
            past.removeFirst();
        }
        g = next;
    }

    private static int differ(State a, State b) {
        int many = 0;
        for (int p = 0; p < a.n; p++) {
            for (int i = 0; i < a.table[p].length; i++) {
                many += a.table[p][i] != b.table[p][i] ? 1 : 0;
            }
        }
        return many;
    }

    public int set(int p, int s, int c) {
        if (noS(p, s) || noC(p, c)) {
            return no(2);
        }
        if (g.table[p][s] == c) {
            return no(4);
        }
        State t = g.copy();
        t.table[p][s] = c;
        becomes(t);
        return ok(lostOf(g));
    }

    public int take(int p) {
        if (noP(p)) {
            return no(2);
        }
        State t = withBest(g, p);
        int many = differ(g, t);
        if (many == 0) {
            return no(4);
        }
        becomes(t);
        return ok(many);
    }

    public int better() {
        State t = improved(g);
        if (took == 0) {
            return no(4);
        }
        becomes(t);
        return ok(took);
    }

    public int build(int set) {
        if (noSet(set)) {
            return no(2);
        }
        if (!isClique(set)) {
            return no(7);
        }
        int m = 1;
        for (int p = 0; p < g.n; p++) {
            if (in(set, p)) {
                m = m * g.h[p] / BigInteger.valueOf(m).gcd(BigInteger.valueOf(g.h[p])).intValue();
            }
        }
        State t = g.copy();
        int from = 0;
        for (int p = 0; p < g.n; p++) {
            if (!in(set, p)) {
                continue;
            }
            List<Integer> numbers = new ArrayList<>();
            for (int i = 0; i < m / g.h[p]; i++) {
                numbers.add((from + i) % m);
            }
            from += m / g.h[p];
            for (int[] c : all(g)) {
                int sum = 0;
                for (int q = 0; q < g.n; q++) {
                    sum += in(set, q) ? c[q] * (m / g.h[q]) : 0;
                }
                if (numbers.contains(sum % m)) {
                    t.table[p][sit(g, p, c)] = c[p];
                }
            }
        }
        if (differ(g, t) == 0) {
            return no(4);
        }
        becomes(t);
        return ok(lostOf(g));
    }

    public int rename(int p, int c, int d) {
        if (noC(p, c) || noC(p, d)) {
            return no(2);
        }
        if (c == d) {
            return no(4);
        }
        State t = g.copy();
        for (int[] x : all(g)) {
            int[] y = x.clone();
            y[p] = x[p] == c ? d : x[p] == d ? c : x[p];
            for (int q = 0; q < g.n; q++) {
                int v = says(g, q, x);
                t.table[q][sit(g, q, y)] = q != p ? v : v == c ? d : v == d ? c : v;
            }
        }
        int many = differ(g, t);
        becomes(t);
        return ok(many);
    }

    public int see(int p, int q, boolean yes) {
        int t = pair(p, q, false);
        if (t != 0) {
            return no(t);
        }
        if (g.sees[p][q] == yes) {
            return no(4);
        }
        becomes(yes ? seen(g, p, q) : unseen(g, p, q));
        return ok(g.table[p].length);
    }

    public int shuffle(int s) {
        if (s < 0 || s > 999999999) {
            return no(1);
        }
        if (g.n == 0) {
            return no(5);
        }
        becomes(drawn(g, s));
        return ok(lostOf(g));
    }

    public int undo() {
        if (past.isEmpty()) {
            return no(5);
        }
        g = past.removeLast();
        return ok(past.size());
    }

    public int print() {
        StringBuilder b = new StringBuilder();
        if (g.n > 0) {
            b.append("players ").append(g.n).append(';');
        }
        for (int p = 0; p < g.n; p++) {
            b.append("hats ").append(p).append(' ').append(g.h[p]).append(';');
        }
        for (int p = 0; p < g.n; p++) {
            for (int q = 0; q < g.n; q++) {
                b.append(g.sees[p][q] ? "sees " + p + " " + q + ";" : "");
            }
        }
        for (int p = 0; p < g.n; p++) {
            b.append("guess ").append(p).append(" table");
            for (int v : g.table[p]) {
                b.append(' ').append(v);
            }
            b.append(';');
        }
        if (b.length() > 600) {
            return no(3);
        }
        out = b.toString();
        return ok(out.length());
    }

    public int out(int i) {
        if (i < 0) {
            return no(1);
        }
        return i < out.length() ? ok(out.charAt(i)) : no(5);
    }
}
