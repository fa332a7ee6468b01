/**
 * Guessing hats on a network: who sees whom, how each guesses, and what all colourings make of it.
 * The document's words in capitals (PLAYER, SITUATION, LOST ..) are the names used here.
 */
public final class HatNet {
    /** None. */
    public static final int NONE = -1;

    private static final int MOST_PLAYERS = 6;
    private static final int MOST_COLOURS = 4;
    private static final int MOST_SITUATIONS = 1024;
    private static final int MOST_COLOURINGS = 4096;
    private static final int MOST_BYTES = 600;
    private static final int MOST_WAYS = 20000;
    private static final int MOST_ENTRIES = 14;
    private static final int MOST_SEARCHES = 10;
    private static final int MOST_SEED = 999999999;
    private static final int ACTS_KEPT = 6;
    private static final int FAR_ABOVE = 1000000;

    private static final int FINE = 0;
    private static final int BAD_NUMBER = 1;
    private static final int NO_SUCH = 2;
    private static final int TOO_MANY = 3;
    private static final int SO_ALREADY = 4;
    private static final int THERE_IS_NONE = 5;
    private static final int NOT_SEEN = 7;
    private static final int FAULTY = 9;

    private final Game game = new Game();
    private final Colourings colourings = new Colourings(game);
    private final Network network = new Network(game);
    private final Renumbering renumbering = new Renumbering(game);
    private final Acts acts = new Acts(game);
    private final Ways allWays = new Ways(colourings);
    private final History history = new History();
    private final byte[] tape = new byte[MOST_BYTES];
    private final Reader reader = new Reader(tape);
    private final Printer printer = new Printer();
    private final Game spare = new Game();
    private int taped = 0;
    private int latest = FINE;
    private int faultKind = NONE;
    private int faultPlace = NONE;

    public HatNet() {
        game.clear(0);
    }

    public int status() {
        return latest;
    }

    public int feed(int a, int b, int c, int d, int e) {
        if (taped + 20 > MOST_BYTES) {
            return NONE;
        }
        tapeInt(a);
        tapeInt(b);
        tapeInt(c);
        tapeInt(d);
        tapeInt(e);
        return taped;
    }

    public int load(int n) {
        if (n < 0 || n > taped) {
            return refuse(BAD_NUMBER);
        }
        taped = 0;
        boolean fine = reader.read(n);
        faultKind = reader.fault;
        faultPlace = reader.place;
        if (!fine) {
            return refuse(FAULTY);
        }
        game.copy(reader.game);
        history.forget();
        colourings.arrange();
        return give(game.players);
    }

    public int fault(int what) {
        if (what == 0) {
            return faultKind;
        }
        return what == 1 ? faultPlace : NONE;
    }

    public int many(int what) {
        switch (what) {
            case 0:
                return give(game.players);
            case 1:
                return give(colourings.count);
            case 2:
                return give(network.sights());
            case 3:
                return give(network.links());
            case 4:
                return give(history.size);
            case 5:
                return give(network.isMutual() ? 1 : 0);
            default:
                return refuse(BAD_NUMBER);
        }
    }

    // ---- tables

    public int player(int p, int what) {
        if (what < 0 || what > 3) {
            return refuse(BAD_NUMBER);
        }
        if (noPlayer(p)) {
            return refuse(NO_SUCH);
        }
        switch (what) {
            case 0:
                return give(game.hats[p]);
            case 1:
                return give(game.sees[p]);
            case 2:
                return give(game.seenBy(p));
            default:
                return give(game.situations(p));
        }
    }

    public int guess(int p, int situation) {
        return noSituation(p, situation) ? refuse(NO_SUCH) : give(game.told(p, situation));
    }

    public int situation(int p, int colouring) {
        if (noPlayer(p) || noColouring(colouring)) {
            return refuse(NO_SUCH);
        }
        return give(colourings.situationOf(p, colouring));
    }

    public int colour(int p, int colouring) {
        if (noPlayer(p) || noColouring(colouring)) {
            return refuse(NO_SUCH);
        }
        return give(colourings.colourOf(p, colouring));
    }

    public int often(int p, int colour) {
        return noColour(p, colour) ? refuse(NO_SUCH) : give(game.timesTold(p, colour));
    }

    public int heeds(int p, int other) {
        int trouble = sightTrouble(p, other);
        if (trouble != FINE) {
            return refuse(trouble);
        }
        return give(game.swayed(p, other) > 0 ? 1 : 0);
    }

    public int heeded(int p) {
        if (noPlayer(p)) {
            return refuse(NO_SUCH);
        }
        int whom = 0;
        for (int q = 0; q < game.players; q++) {
            if (game.watches(p, q) && game.swayed(p, q) > 0) {
                whom |= 1 << q;
            }
        }
        return give(whom);
    }

    public int fooled(int p, int other) {
        int trouble = sightTrouble(p, other);
        if (trouble != FINE) {
            return refuse(trouble);
        }
        return give(game.swayed(p, other) * colourings.colouringsOfOneSituation(p));
    }

    // ---- colourings

    public int right(int colouring) {
        return noColouring(colouring) ? refuse(NO_SUCH) : give(colourings.right[colouring]);
    }

    public int lost(int k) {
        if (k < NONE) {
            return refuse(BAD_NUMBER);
        }
        if (k == NONE) {
            return give(colourings.lostInAll());
        }
        int found = colourings.lostAt(k);
        return found == NONE ? refuse(THERE_IS_NONE) : give(found);
    }

    public int exact(int m) {
        return noRightCount(m) ? refuse(BAD_NUMBER) : give(colourings.withRight(m, m));
    }

    public int alone(int p) {
        return noPlayer(p) ? refuse(NO_SUCH) : give(colourings.byRight[1 << p]);
    }

    public int both(int p, int other) {
        int trouble = pairTrouble(p, other);
        if (trouble != FINE) {
            return refuse(trouble);
        }
        return give(colourings.allRightOf(1 << p | 1 << other));
    }

    public int without(int set) {
        return noSet(set) ? refuse(NO_SUCH) : give(colourings.noneRightOf(set));
    }

    public int together(int set) {
        return noSet(set) ? refuse(NO_SUCH) : give(colourings.allRightOf(set));
    }

    public int crowd(int what) {
        if (what < 0 || what > 2) {
            return refuse(BAD_NUMBER);
        }
        if (game.players == 0) {
            return refuse(THERE_IS_NONE);
        }
        int most = colourings.mostRight();
        if (what == 0) {
            return give(most);
        }
        return give(what == 1 ? colourings.firstWithRight(most) : colourings.withRight(most, most));
    }

    public int twice() {
        return give(colourings.lostOfTwoGuesses());
    }

    public int blinded(int p, int other) {
        int trouble = sightTrouble(p, other);
        return trouble != FINE ? refuse(trouble) : give(colourings.lostUnseen(p, other));
    }

    public int weakest(boolean lost) {
        int pair = NONE;
        int most = NONE;
        for (int p = 0; p < game.players; p++) {
            for (int q = 0; q < game.players; q++) {
                int then = game.watches(p, q) ? colourings.lostUnseen(p, q) : NONE;
                if (then > most) {
                    most = then;
                    pair = MOST_PLAYERS * p + q;
                }
            }
        }
        if (pair == NONE) {
            return refuse(THERE_IS_NONE);
        }
        return give(lost ? most : pair);
    }

    public int needed() {
        return game.players == 0 ? refuse(THERE_IS_NONE) : give(colourings.fewestNeeded());
    }

    public int known(int p, int colour) {
        return noColour(p, colour) ? refuse(NO_SUCH) : give(colourings.lostWith(p, colour));
    }

    public int nearest(int colouring, int what) {
        if (what < 0 || what > 1) {
            return refuse(BAD_NUMBER);
        }
        if (noColouring(colouring)) {
            return refuse(NO_SUCH);
        }
        int found = colourings.nearestLost(colouring);
        if (found == NONE) {
            return refuse(THERE_IS_NONE);
        }
        return give(what == 0 ? colourings.unlike(colouring, found) : found);
    }

    public int atLeast(int m) {
        return noRightCount(m) ? refuse(BAD_NUMBER) : give(colourings.withRight(m, MOST_PLAYERS));
    }

    // ---- bounds

    public int acyclic() {
        return give(network.isAcyclic() ? 1 : 0);
    }

    public int always() {
        if (game.players == 0 || !network.isAcyclic()) {
            return refuse(THERE_IS_NONE);
        }
        int left = 1;
        for (int p = 0; p < game.players; p++) {
            left *= game.hats[p] - 1;
        }
        return give(left);
    }

    public int blind() {
        return game.players == 0 ? refuse(THERE_IS_NONE) : give(network.greatestBlindSet());
    }

    public int share(int set, int what) {
        if (what < 0 || what > 1) {
            return refuse(BAD_NUMBER);
        }
        if (noSet(set)) {
            return refuse(NO_SUCH);
        }
        int twelfths = network.twelfths(set);
        int common = commonDivisor(twelfths, Network.WHOLE);
        return give((what == 0 ? twelfths : Network.WHOLE) / common);
    }

    public int least() {
        int left = colourings.count;
        for (int p = 0; p < game.players; p++) {
            left -= colourings.count / game.hats[p];
        }
        return give(Math.max(0, left));
    }

    public int clique() {
        return game.players == 0 ? refuse(THERE_IS_NONE) : give(network.greatestClique());
    }

    public int strongest() {
        return game.players == 0 ? refuse(THERE_IS_NONE) : give(network.strongestClique());
    }

    public int sure() {
        return give(network.sureCliques());
    }

    // ---- ways to guess

    public int best(int p) {
        return noPlayer(p) ? refuse(NO_SUCH) : give(colourings.weighBest(p));
    }

    public int bestAt(int p, int situation) {
        if (noSituation(p, situation)) {
            return refuse(NO_SUCH);
        }
        colourings.weighBest(p);
        return give(colourings.bestTable[situation]);
    }

    public int bettered() {
        int by = NONE;
        int fewest = MOST_COLOURINGS + 1;
        for (int p = 0; p < game.players; p++) {
            int then = colourings.weighBest(p);
            if (then < fewest) {
                fewest = then;
                by = p;
            }
        }
        return by == NONE ? refuse(THERE_IS_NONE) : give(by);
    }

    public int ways(int what) {
        if (what < 0 || what > 2) {
            return refuse(BAD_NUMBER);
        }
        if (game.waysToGuess() > MOST_WAYS) {
            return refuse(TOO_MANY);
        }
        if (what == 0) {
            return give(game.waysToGuess());
        }
        allWays.goThrough();
        return give(what == 1 ? allWays.won : allWays.fewestLost);
    }

    public int search(int s, int n, int what) {
        if (noSeed(s) || n < 1 || n > MOST_SEARCHES || what < 0 || what > 1) {
            return refuse(BAD_NUMBER);
        }
        if (game.players == 0) {
            return refuse(THERE_IS_NONE);
        }
        spare.copy(game);
        int fewest = MOST_COLOURINGS + 1;
        int first = s;
        for (int i = 0; i < n; i++) {
            game.draw(s + i);
            colourings.judgeAll();
            colourings.improve();
            if (colourings.lostInAll() < fewest) {
                fewest = colourings.lostInAll();
                first = s + i;
            }
        }
        game.copy(spare);
        colourings.judgeAll();
        return give(what == 0 ? fewest : first);
    }

    // ---- renumbered

    public int renumber(int what) {
        if (what < 0 || what > 1) {
            return refuse(BAD_NUMBER);
        }
        return give(renumbering.howMany(what == 1));
    }

    public int alike(int p, int other) {
        int trouble = pairTrouble(p, other);
        if (trouble != FINE) {
            return refuse(trouble);
        }
        return give(renumbering.swapKeeps(p, other) ? 1 : 0);
    }

    // ---- networks

    public int far(int p, int other) {
        if (noPlayer(p) || noPlayer(other)) {
            return refuse(NO_SUCH);
        }
        int steps = network.stepsTo(p, other);
        return steps == NONE ? refuse(THERE_IS_NONE) : give(steps);
    }

    public int shape() {
        return game.players == 0 ? refuse(THERE_IS_NONE) : give(network.kind());
    }

    public int hub() {
        int found = network.firstHub();
        return found == NONE ? refuse(THERE_IS_NONE) : give(found);
    }

    public int part(int p) {
        return noPlayer(p) ? refuse(NO_SUCH) : give(network.linkedWith(p, network.everybody()));
    }

    // ---- acts

    public int set(int p, int situation, int colour) {
        if (noSituation(p, situation) || noColour(p, colour)) {
            return refuse(NO_SUCH);
        }
        if (game.told(p, situation) == colour) {
            return refuse(SO_ALREADY);
        }
        history.note(game);
        game.tell(p, situation, colour);
        history.keep();
        colourings.judgeAgain(p);
        return give(colourings.lostInAll());
    }

    public int take(int p) {
        if (noPlayer(p)) {
            return refuse(NO_SUCH);
        }
        history.note(game);
        colourings.weighBest(p);
        int others = colourings.takeBest(p);
        if (others == 0) {
            return refuse(SO_ALREADY);
        }
        history.keep();
        return give(others);
    }

    public int better() {
        history.note(game);
        int took = colourings.improve();
        if (took == 0) {
            return refuse(SO_ALREADY);
        }
        history.keep();
        return give(took);
    }

    public int build(int set) {
        if (noSet(set)) {
            return refuse(NO_SUCH);
        }
        if (!network.isClique(set)) {
            return refuse(NOT_SEEN);
        }
        history.note(game);
        if (acts.tellClique(set) == 0) {
            return refuse(SO_ALREADY);
        }
        history.keep();
        colourings.judgeAll();
        return give(colourings.lostInAll());
    }

    public int rename(int p, int colour, int other) {
        if (noColour(p, colour) || noColour(p, other)) {
            return refuse(NO_SUCH);
        }
        if (colour == other) {
            return refuse(SO_ALREADY);
        }
        history.note(game);
        int others = acts.swapNames(p, colour, other);
        history.keep();
        colourings.judgeAll();
        return give(others);
    }

    public int see(int p, int other, boolean yes) {
        int trouble = pairTrouble(p, other);
        if (trouble != FINE) {
            return refuse(trouble);
        }
        if (game.watches(p, other) == yes) {
            return refuse(SO_ALREADY);
        }
        history.note(game);
        if (yes) {
            acts.openEyes(p, other);
        } else {
            acts.closeEyes(p, other);
        }
        history.keep();
        colourings.arrange();
        return give(game.situations(p));
    }

    public int shuffle(int s) {
        if (noSeed(s)) {
            return refuse(BAD_NUMBER);
        }
        if (game.players == 0) {
            return refuse(THERE_IS_NONE);
        }
        history.note(game);
        game.draw(s);
        history.keep();
        colourings.judgeAll();
        return give(colourings.lostInAll());
    }

    public int undo() {
        if (history.size == 0) {
            return refuse(THERE_IS_NONE);
        }
        history.goBack(game);
        colourings.arrange();
        return give(history.size);
    }

    public int print() {
        return printer.write(game) ? give(printer.length) : refuse(TOO_MANY);
    }

    public int out(int i) {
        if (i < 0) {
            return refuse(BAD_NUMBER);
        }
        return i >= printer.length ? refuse(THERE_IS_NONE) : give(printer.text[i]);
    }

    private int give(int value) {
        latest = FINE;
        return value;
    }

    private int refuse(int kind) {
        latest = kind;
        return NONE;
    }

    private void tapeInt(int bytes) {
        for (int shift = 24; shift >= 0 && taped < MOST_BYTES; shift -= 8) {
            tape[taped] = (byte) (bytes >> shift);
            taped++;
        }
    }

    private boolean noPlayer(int p) {
        return p < 0 || p >= game.players;
    }

    private boolean noColour(int p, int colour) {
        return noPlayer(p) || colour < 0 || colour >= game.hats[p];
    }

    private boolean noSituation(int p, int situation) {
        return noPlayer(p) || situation < 0 || situation >= game.situations(p);
    }

    private boolean noColouring(int x) {
        return x < 0 || x >= colourings.count;
    }

    private boolean noSet(int players) {
        return players <= 0 || players >= 1 << game.players;
    }

    private boolean noSeed(int s) {
        return s < 0 || s > MOST_SEED;
    }

    private boolean noRightCount(int m) {
        return m < 0 || m > MOST_PLAYERS;
    }

    private int pairTrouble(int p, int other) {
        if (noPlayer(p) || noPlayer(other)) {
            return NO_SUCH;
        }
        return p == other ? SO_ALREADY : FINE;
    }

    private int sightTrouble(int p, int other) {
        int trouble = pairTrouble(p, other);
        if (trouble != FINE) {
            return trouble;
        }
        return game.watches(p, other) ? FINE : NOT_SEEN;
    }

    private static int commonDivisor(int a, int b) {
        int most = 1;
        for (int d = 2; d <= b; d++) {
            if (a % d == 0 && b % d == 0) {
                most = d;
            }
        }
        return most;
    }

    /**
     * Fills a row with the sums of digits times weights for all numbers one digit longer than the
     * size numbers that it holds, and tells how many these are. Backwards, so that no sum is
     * overwritten before it has been used.
     */
    private static int lengthen(int[] row, int size, int hats, int weight) {
        if (size < 0 || hats < 1 || size * hats > row.length) {
            return size;
        }
        for (int x = size - 1; x >= 0; x--) {
            int sum = row[x];
            for (int c = hats - 1; c >= 0; c--) {
                row[x * hats + c] = sum + c * weight;
            }
        }
        return size * hats;
    }

    /** PLAYERS, what they see and how they guess: all that an ACT can change. */
    private static final class Game {
        private static final int PER_WORD = 32;
        private static final int WORDS = MOST_SITUATIONS / PER_WORD;
        private static final long FACTOR = 6364136223846793005L;
        private static final long ADDED = 1442695040888963407L;

        int players;
        final int[] hats = new int[MOST_PLAYERS];
        final int[] sees = new int[MOST_PLAYERS];
        // Two bits an entry, so that the copies for undo stay small.
        final long[] tables = new long[MOST_PLAYERS * WORDS];

        void clear(int howMany) {
            players = howMany;
            for (int p = 0; p < MOST_PLAYERS; p++) {
                hats[p] = 2;
                sees[p] = 0;
            }
            for (int i = 0; i < tables.length; i++) {
                tables[i] = 0;
            }
        }

        void copy(Game from) {
            players = from.players;
            System.arraycopy(from.hats, 0, hats, 0, MOST_PLAYERS);
            System.arraycopy(from.sees, 0, sees, 0, MOST_PLAYERS);
            System.arraycopy(from.tables, 0, tables, 0, tables.length);
        }

        boolean watches(int p, int q) {
            return (sees[p] >> q & 1) == 1;
        }

        int seenBy(int p) {
            int whom = 0;
            for (int q = 0; q < players; q++) {
                if ((sees[q] >> p & 1) == 1) {
                    whom |= 1 << q;
                }
            }
            return whom;
        }

        int situations(int p) {
            return weightBehind(p, NONE);
        }

        /** How many SITUATIONS of p the PLAYERS numbered above q make by themselves. */
        int weightBehind(int p, int q) {
            int weight = 1;
            for (int r = q + 1; r < players; r++) {
                if ((sees[p] >> r & 1) == 1) {
                    weight *= hats[r];
                }
            }
            return weight;
        }

        /** What a COLOUR of q counts in the number of a SITUATION of p: 0, if p doesn't see q. */
        int weight(int p, int q) {
            return watches(p, q) ? weightBehind(p, q) : 0;
        }

        /** The COLOUR of q in a SITUATION of p, who sees q. */
        int colourIn(int p, int s, int q) {
            return s / weightBehind(p, q) % hats[q];
        }

        int told(int p, int s) {
            int word = p * WORDS + s / PER_WORD;
            if (s < 0 || word < 0 || word >= tables.length) {
                return 0;
            }
            return (int) (tables[word] >>> 2 * (s % PER_WORD)) & 3;
        }

        void tell(int p, int s, int colour) {
            int word = p * WORDS + s / PER_WORD;
            if (s < 0 || word < 0 || word >= tables.length) {
                return;
            }
            int shift = 2 * (s % PER_WORD);
            tables[word] = tables[word] & ~(3L << shift) | (long) (colour & 3) << shift;
        }

        int timesTold(int p, int colour) {
            int times = 0;
            int all = situations(p);
            for (int s = 0; s < all; s++) {
                if (told(p, s) == colour) {
                    times++;
                }
            }
            return times;
        }

        /** In how many SITUATIONS p would guess otherwise with some other COLOUR of q. */
        int swayed(int p, int q) {
            int weight = weight(p, q);
            int times = 0;
            int all = situations(p);
            for (int s = 0; s < all; s++) {
                int bare = s - colourIn(p, s, q) * weight;
                boolean otherwise = false;
                for (int c = 0; c < hats[q]; c++) {
                    otherwise |= told(p, bare + c * weight) != told(p, s);
                }
                if (otherwise) {
                    times++;
                }
            }
            return times;
        }

        /** In how many ways all could guess; more than MOST_WAYS, if there are more. */
        int waysToGuess() {
            int found = 1;
            for (int p = 0; p < players; p++) {
                int all = hats[p] == 1 ? 0 : situations(p);
                for (int s = 0; s < all && found <= MOST_WAYS; s++) {
                    found *= hats[p];
                }
            }
            return found;
        }

        void draw(int seed) {
            long x = seed;
            for (int p = 0; p < players; p++) {
                int all = situations(p);
                for (int s = 0; s < all; s++) {
                    x = x * FACTOR + ADDED;
                    tell(p, s, (int) ((x >>> 33) % hats[p]));
                }
            }
        }
    }

    /** All COLOURINGS of a game, and who is RIGHT in each. */
    private static final class Colourings {
        final Game game;
        int count = 0;
        final int[] place = new int[MOST_PLAYERS];
        final int[][] situation = new int[MOST_PLAYERS][MOST_COLOURINGS];
        final int[] right = new int[MOST_COLOURINGS];
        // In how many COLOURINGS just the PLAYERS of a SET are RIGHT.
        final int[] byRight = new int[1 << MOST_PLAYERS];
        final int[] bestTable = new int[MOST_SITUATIONS];
        private final int[] rescued = new int[MOST_COLOURINGS];

        Colourings(Game of) {
            game = of;
        }

        /** Lays all out anew: due when PLAYERS, their COLOURS or what they see have changed. */
        void arrange() {
            int all = 1;
            for (int p = game.players - 1; p >= 0; p--) {
                place[p] = all;
                all *= game.hats[p];
            }
            count = game.players == 0 ? 0 : all;
            for (int p = 0; p < game.players; p++) {
                int size = 1;
                situation[p][0] = 0;
                for (int q = 0; q < game.players; q++) {
                    size = lengthen(situation[p], size, game.hats[q], game.weight(p, q));
                }
            }
            judgeAll();
        }

        /** Who is RIGHT: due when TABLES have changed. */
        void judgeAll() {
            for (int x = 0; x < count; x++) {
                right[x] = 0;
            }
            for (int p = 0; p < game.players; p++) {
                judge(p);
            }
            tally();
        }

        void judgeAgain(int p) {
            judge(p);
            tally();
        }

        private void judge(int p) {
            int bit = 1 << p;
            int[] sight = situation[p];
            for (int x = 0; x < count; x++) {
                boolean isRight = game.told(p, sight[x]) == colourOf(p, x);
                right[x] = isRight ? right[x] | bit : right[x] & ~bit;
            }
        }

        private void tally() {
            for (int who = 0; who < byRight.length; who++) {
                byRight[who] = 0;
            }
            for (int x = 0; x < count; x++) {
                byRight[right[x]]++;
            }
        }

        int colourOf(int p, int x) {
            return x / place[p] % game.hats[p];
        }

        int situationOf(int p, int x) {
            return situation[p][x];
        }

        int colouringsOfOneSituation(int p) {
            return count / game.situations(p);
        }

        int lostInAll() {
            return byRight[0];
        }

        int lostAt(int k) {
            int before = 0;
            for (int x = 0; x < count; x++) {
                if (right[x] == 0) {
                    if (before == k) {
                        return x;
                    }
                    before++;
                }
            }
            return NONE;
        }

        int withRight(int from, int to) {
            int found = 0;
            for (int who = 0; who < byRight.length; who++) {
                int many = Integer.bitCount(who);
                if (many >= from && many <= to) {
                    found += byRight[who];
                }
            }
            return found;
        }

        int allRightOf(int players) {
            int found = 0;
            for (int who = 0; who < byRight.length; who++) {
                if ((who & players) == players) {
                    found += byRight[who];
                }
            }
            return found;
        }

        int noneRightOf(int players) {
            int found = 0;
            for (int who = 0; who < byRight.length; who++) {
                if ((who & players) == 0) {
                    found += byRight[who];
                }
            }
            return found;
        }

        int mostRight() {
            int most = 0;
            for (int who = 0; who < byRight.length; who++) {
                if (byRight[who] > 0) {
                    most = Math.max(most, Integer.bitCount(who));
                }
            }
            return most;
        }

        int firstWithRight(int many) {
            for (int x = 0; x < count; x++) {
                if (Integer.bitCount(right[x]) == many) {
                    return x;
                }
            }
            return NONE;
        }

        int lostOfTwoGuesses() {
            int lost = 0;
            for (int x = 0; x < count; x++) {
                if (right[x] == 0 && !secondIsRight(x)) {
                    lost++;
                }
            }
            return lost;
        }

        private boolean secondIsRight(int x) {
            for (int p = 0; p < game.players; p++) {
                int second = (game.told(p, situation[p][x]) + 1) % game.hats[p];
                if (second == colourOf(p, x)) {
                    return true;
                }
            }
            return false;
        }

        /** How many are LOST, if p is always shown COLOUR 0 of q. */
        int lostUnseen(int p, int q) {
            int weight = game.weight(p, q);
            int others = ~(1 << p);
            int lost = 0;
            for (int x = 0; x < count; x++) {
                if ((right[x] & others) == 0) {
                    int shown = situation[p][x] - colourOf(q, x) * weight;
                    if (game.told(p, shown) != colourOf(p, x)) {
                        lost++;
                    }
                }
            }
            return lost;
        }

        int fewestNeeded() {
            int all = (1 << game.players) - 1;
            int found = all;
            for (int set = 1; set < all; set++) {
                boolean fewer = Integer.bitCount(set) < Integer.bitCount(found);
                if (fewer && noneRightOf(set) <= lostInAll()) {
                    found = set;
                }
            }
            return found;
        }

        int lostWith(int p, int colour) {
            int lost = 0;
            for (int x = 0; x < count; x++) {
                if (right[x] == 0 && colourOf(p, x) == colour) {
                    lost++;
                }
            }
            return lost;
        }

        int nearestLost(int from) {
            int found = NONE;
            int fewest = MOST_PLAYERS + 1;
            for (int x = 0; x < count; x++) {
                if (right[x] == 0 && unlike(from, x) < fewest) {
                    fewest = unlike(from, x);
                    found = x;
                }
            }
            return found;
        }

        /** How many PLAYERS have other hats in one COLOURING than in another. */
        int unlike(int x, int y) {
            int others = 0;
            for (int p = 0; p < game.players; p++) {
                if (colourOf(p, x) != colourOf(p, y)) {
                    others++;
                }
            }
            return others;
        }

        /** Puts the BEST TABLE of p into bestTable, and tells how many would be LOST with it. */
        int weighBest(int p) {
            int hats = game.hats[p];
            int situations = game.situations(p);
            int lost = countRescued(p, situations * hats);
            for (int s = 0; s < situations; s++) {
                int best = 0;
                for (int c = 1; c < hats; c++) {
                    if (rescued[s * hats + c] > rescued[s * hats + best]) {
                        best = c;
                    }
                }
                bestTable[s] = best;
                lost -= rescued[s * hats + best];
            }
            return lost;
        }

        /** By SITUATION and COLOUR of p, what p could rescue by that guess; tells how many in all. */
        private int countRescued(int p, int entries) {
            for (int i = 0; i < entries; i++) {
                rescued[i] = 0;
            }
            int others = ~(1 << p);
            int all = 0;
            for (int x = 0; x < count; x++) {
                if ((right[x] & others) == 0) {
                    rescued[situation[p][x] * game.hats[p] + colourOf(p, x)]++;
                    all++;
                }
            }
            return all;
        }

        /** Gives p the TABLE that weighBest found: how many entries are others than they were. */
        int takeBest(int p) {
            int changed = 0;
            int situations = game.situations(p);
            for (int s = 0; s < situations; s++) {
                if (game.told(p, s) != bestTable[s]) {
                    game.tell(p, s, bestTable[s]);
                    changed++;
                }
            }
            if (changed > 0) {
                judgeAgain(p);
            }
            return changed;
        }

        /** All take their BEST in turn, as long as that helps: how many did. */
        int improve() {
            int took = 0;
            int idle = 0;
            int p = 0;
            for (int turn = 0; turn < FAR_ABOVE && idle < game.players; turn++) {
                if (weighBest(p) < lostInAll()) {
                    takeBest(p);
                    took++;
                    idle = 0;
                } else {
                    idle++;
                }
                p = p + 1 < game.players ? p + 1 : 0;
            }
            return took;
        }
    }

    /** What is asked of who sees whom, and of how many COLOURS each has. */
    private static final class Network {
        // SHARES are counted in twelfths: 1, 2, 3 and 4 all divide 12.
        private static final int WHOLE = 12;
        private static final int TREE = 1;
        private static final int RING = 2;
        private static final int WHEEL = 3;
        private static final int CLIQUE = 4;

        private final Game game;

        Network(Game of) {
            game = of;
        }

        int everybody() {
            return (1 << game.players) - 1;
        }

        int sights() {
            int pairs = 0;
            for (int p = 0; p < game.players; p++) {
                pairs += Integer.bitCount(game.sees[p]);
            }
            return pairs;
        }

        int linked(int p) {
            return game.sees[p] & game.seenBy(p);
        }

        int links() {
            int ends = 0;
            for (int p = 0; p < game.players; p++) {
                ends += Integer.bitCount(linked(p));
            }
            return ends / 2;
        }

        boolean isMutual() {
            return sights() == 2 * links();
        }

        /** Whoever sees none of those left is taken away, till nobody is left or none can be. */
        boolean isAcyclic() {
            int left = everybody();
            for (int round = 0; round < game.players; round++) {
                for (int p = 0; p < game.players; p++) {
                    if ((game.sees[p] & left) == 0) {
                        left &= ~(1 << p);
                    }
                }
            }
            return left == 0;
        }

        int greatestBlindSet() {
            int found = 0;
            for (int set = 1; set <= everybody(); set++) {
                if (Integer.bitCount(set) > Integer.bitCount(found) && seesNoneOfItself(set)) {
                    found = set;
                }
            }
            return found;
        }

        private boolean seesNoneOfItself(int set) {
            for (int p = 0; p < game.players; p++) {
                if ((set >> p & 1) == 1 && (game.sees[p] & set) != 0) {
                    return false;
                }
            }
            return true;
        }

        boolean isClique(int set) {
            for (int p = 0; p < game.players; p++) {
                if ((set >> p & 1) == 1 && ((game.sees[p] | 1 << p) & set) != set) {
                    return false;
                }
            }
            return true;
        }

        int twelfths(int set) {
            int sum = 0;
            for (int p = 0; p < game.players; p++) {
                if ((set >> p & 1) == 1) {
                    sum += WHOLE / game.hats[p];
                }
            }
            return sum;
        }

        int greatestClique() {
            int found = 0;
            for (int set = 1; set <= everybody(); set++) {
                if (Integer.bitCount(set) > Integer.bitCount(found) && isClique(set)) {
                    found = set;
                }
            }
            return found;
        }

        int strongestClique() {
            int found = 0;
            for (int set = 1; set <= everybody(); set++) {
                if (twelfths(set) > twelfths(found) && isClique(set)) {
                    found = set;
                }
            }
            return found;
        }

        int sureCliques() {
            int many = 0;
            for (int set = 1; set <= everybody(); set++) {
                if (twelfths(set) >= WHOLE && isClique(set)) {
                    many++;
                }
            }
            return many;
        }

        int stepsTo(int p, int other) {
            int reached = 1 << p;
            for (int steps = 0; steps < game.players; steps++) {
                if ((reached >> other & 1) == 1) {
                    return steps;
                }
                int next = reached;
                for (int q = 0; q < game.players; q++) {
                    if ((reached >> q & 1) == 1) {
                        next |= game.sees[q];
                    }
                }
                reached = next;
            }
            return NONE;
        }

        /** To whom of a SET one comes from p along LINKS, without leaving the SET. */
        int linkedWith(int p, int set) {
            int reached = 1 << p;
            for (int round = 0; round < game.players; round++) {
                for (int q = 0; q < game.players; q++) {
                    if ((reached >> q & 1) == 1) {
                        reached |= linked(q) & set;
                    }
                }
            }
            return reached;
        }

        int kind() {
            if (game.players >= 4 && isClique(everybody())) {
                return CLIQUE;
            }
            if (firstHub() != NONE) {
                return WHEEL;
            }
            if (isMutual() && isRing(everybody())) {
                return RING;
            }
            return isTree() ? TREE : 0;
        }

        private boolean isTree() {
            boolean whole = linkedWith(0, everybody()) == everybody();
            return isMutual() && whole && links() == game.players - 1;
        }

        private boolean isRing(int set) {
            if (Integer.bitCount(set) < 3) {
                return false;
            }
            for (int p = 0; p < game.players; p++) {
                boolean inside = (set >> p & 1) == 1;
                if (inside && Integer.bitCount(linked(p) & set) != 2) {
                    return false;
                }
            }
            return linkedWith(Integer.numberOfTrailingZeros(set), set) == set;
        }

        int firstHub() {
            if (!isMutual()) {
                return NONE;
            }
            for (int p = 0; p < game.players; p++) {
                int others = everybody() & ~(1 << p);
                if (linked(p) == others && isRing(others)) {
                    return p;
                }
            }
            return NONE;
        }
    }

    /** RENUMBERINGS of a game, and whether they KEEP the TABLES. */
    private static final class Renumbering {
        private final Game game;
        private final int[] image = new int[MOST_PLAYERS];
        private final int[] carried = new int[MOST_SITUATIONS];

        Renumbering(Game of) {
            game = of;
        }

        /**
         * They are a group: those that leave all PLAYERS below one where they are, are as many as
         * those that leave it, too, times the places to which they bring it. So one that brings it
         * to a place is enough, and not all have to be gone through.
         */
        int howMany(boolean keeping) {
            int all = 1;
            for (int p = 0; p < game.players; p++) {
                int places = 0;
                for (int q = p; q < game.players; q++) {
                    if (someBrings(p, q, keeping)) {
                        places++;
                    }
                }
                all *= places;
            }
            return all;
        }

        boolean swapKeeps(int p, int q) {
            stay();
            image[p] = q;
            image[q] = p;
            return fits() && keepsAll();
        }

        /** Whether one that leaves all below p where they are brings p to q. */
        private boolean someBrings(int p, int q, boolean keeping) {
            int orders = 1;
            for (int left = 2; left < game.players - p; left++) {
                orders *= left;
            }
            for (int order = 0; order < orders; order++) {
                stay();
                bringForward(p, q);
                orderBehind(p, order);
                if (fits() && (!keeping || keepsAll())) {
                    return true;
                }
            }
            return false;
        }

        private void stay() {
            for (int p = 0; p < MOST_PLAYERS; p++) {
                image[p] = p;
            }
        }

        private void bringForward(int to, int from) {
            int brought = image[from];
            for (int at = from; at > to; at--) {
                image[at] = image[at - 1];
            }
            image[to] = brought;
        }

        private void orderBehind(int p, int order) {
            int rest = order;
            for (int at = p + 1; at < game.players; at++) {
                int left = game.players - at;
                bringForward(at, at + rest % left);
                rest /= left;
            }
        }

        private boolean fits() {
            for (int p = 0; p < game.players; p++) {
                if (game.hats[p] != game.hats[image[p]]) {
                    return false;
                }
                for (int q = 0; q < game.players; q++) {
                    if (game.watches(p, q) != game.watches(image[p], image[q])) {
                        return false;
                    }
                }
            }
            return true;
        }

        private boolean keepsAll() {
            for (int p = 0; p < game.players; p++) {
                if (!keeps(p)) {
                    return false;
                }
            }
            return true;
        }

        private boolean keeps(int p) {
            int size = 1;
            carried[0] = 0;
            for (int q = 0; q < game.players; q++) {
                if (game.watches(p, q)) {
                    size = lengthen(carried, size, game.hats[q], game.weight(image[p], image[q]));
                }
            }
            for (int s = 0; s < size; s++) {
                if (game.told(p, s) != game.told(image[p], carried[s])) {
                    return false;
                }
            }
            return true;
        }
    }

    /** What ACTS do to TABLES and sight. */
    private static final class Acts {
        // With a multiple of the least number that all divide, all STEPS and numbers are as many
        // times greater, and the TABLES are the same: so one number serves every CLIQUE.
        private static final int MODULUS = 12;

        private final Game game;

        Acts(Game of) {
            game = of;
        }

        /** TABLES OF A CLIQUE: how many entries are others than they were. */
        int tellClique(int set) {
            int first = 0;
            int changed = 0;
            for (int p = 0; p < game.players; p++) {
                if ((set >> p & 1) == 1) {
                    changed += tellMember(p, set, first);
                    first += MODULUS / game.hats[p];
                }
            }
            return changed;
        }

        private int tellMember(int p, int set, int first) {
            int step = MODULUS / game.hats[p];
            int changed = 0;
            int situations = game.situations(p);
            for (int s = 0; s < situations; s++) {
                int sum = sumSeen(p, s, set);
                int guess = 0;
                for (int c = 0; c < game.hats[p]; c++) {
                    if (Math.floorMod(sum + c * step - first, MODULUS) < step) {
                        guess = c;
                    }
                }
                if (game.told(p, s) != guess) {
                    game.tell(p, s, guess);
                    changed++;
                }
            }
            return changed;
        }

        private int sumSeen(int p, int s, int set) {
            int sum = 0;
            for (int q = 0; q < game.players; q++) {
                if (q != p && (set >> q & 1) == 1) {
                    sum += game.colourIn(p, s, q) * (MODULUS / game.hats[q]);
                }
            }
            return sum;
        }

        int swapNames(int p, int colour, int other) {
            int changed = 0;
            int situations = game.situations(p);
            for (int s = 0; s < situations; s++) {
                int was = game.told(p, s);
                if (was == colour || was == other) {
                    game.tell(p, s, was == colour ? other : colour);
                    changed++;
                }
            }
            for (int q = 0; q < game.players; q++) {
                if (game.watches(q, p)) {
                    changed += swapSeen(q, p, colour, other);
                }
            }
            return changed;
        }

        private int swapSeen(int q, int p, int colour, int other) {
            int apart = (other - colour) * game.weight(q, p);
            int changed = 0;
            int situations = game.situations(q);
            for (int s = 0; s < situations; s++) {
                if (game.colourIn(q, s, p) == colour && game.told(q, s) != game.told(q, s + apart)) {
                    int was = game.told(q, s);
                    game.tell(q, s, game.told(q, s + apart));
                    game.tell(q, s + apart, was);
                    changed += 2;
                }
            }
            return changed;
        }

        /** From the last entry on, so that none is overwritten before it has been used. */
        void openEyes(int p, int q) {
            game.sees[p] |= 1 << q;
            int weight = game.weightBehind(p, q);
            int wider = weight * game.hats[q];
            for (int s = game.situations(p) - 1; s >= 0; s--) {
                game.tell(p, s, game.told(p, s / wider * weight + s % weight));
            }
        }

        void closeEyes(int p, int q) {
            game.sees[p] &= ~(1 << q);
            int weight = game.weightBehind(p, q);
            int wider = weight * game.hats[q];
            int situations = game.situations(p);
            for (int s = 0; s < situations; s++) {
                game.tell(p, s, game.told(p, s / weight * wider + s % weight));
            }
        }
    }

    /** All ways in which all could guess, where there are at most MOST_WAYS of them. */
    private static final class Ways {
        private static final int WORDS = MOST_COLOURINGS / 64;

        private final Colourings colourings;
        private final Game game;
        // By entry of a TABLE and COLOUR guessed there: the COLOURINGS in which that is RIGHT.
        private final long[][] rightIf = new long[MOST_ENTRIES * MOST_COLOURS][WORDS];
        // By how many entries are settled: the COLOURINGS in which none of these is RIGHT.
        private final long[][] open = new long[MOST_ENTRIES + 1][WORDS];
        private final int[] colours = new int[MOST_ENTRIES];
        private final int[] picked = new int[MOST_ENTRIES];
        private int entries;
        private int words;
        int won;
        int fewestLost;

        Ways(Colourings of) {
            colourings = of;
            game = of.game;
        }

        void goThrough() {
            int all = game.waysToGuess();
            if (someHasOneColour()) {
                won = all;
                fewestLost = 0;
                return;
            }
            won = 0;
            fewestLost = MOST_COLOURINGS;
            layOut();
            int changed = 0;
            for (int way = 0; way < all; way++) {
                for (int entry = changed; entry < entries; entry++) {
                    settle(entry);
                }
                int lost = stillOpen();
                won += lost == 0 ? 1 : 0;
                fewestLost = Math.min(fewestLost, lost);
                changed = pickNext();
            }
        }

        /** Who has but one COLOUR is always RIGHT, and its entries, one way each, may be many. */
        private boolean someHasOneColour() {
            for (int p = 0; p < game.players; p++) {
                if (game.hats[p] == 1) {
                    return true;
                }
            }
            return false;
        }

        private void layOut() {
            words = (colourings.count + 63) / 64;
            entries = 0;
            for (int i = 0; i < words; i++) {
                open[0][i] = 0;
            }
            for (int x = 0; x < colourings.count; x++) {
                open[0][x / 64] |= 1L << x % 64;
            }
            for (int p = 0; p < game.players; p++) {
                layOutPlayer(p);
            }
        }

        private void layOutPlayer(int p) {
            int first = entries;
            int situations = game.situations(p);
            for (int s = 0; s < situations && entries < MOST_ENTRIES; s++) {
                colours[entries] = game.hats[p];
                picked[entries] = 0;
                for (int c = 0; c < game.hats[p]; c++) {
                    for (int i = 0; i < words; i++) {
                        rightIf[entries * MOST_COLOURS + c][i] = 0;
                    }
                }
                entries++;
            }
            for (int x = 0; x < colourings.count; x++) {
                int entry = first + colourings.situationOf(p, x);
                if (entry < MOST_ENTRIES) {
                    int row = entry * MOST_COLOURS + colourings.colourOf(p, x);
                    rightIf[row][x / 64] |= 1L << x % 64;
                }
            }
        }

        private void settle(int entry) {
            long[] before = open[entry];
            long[] after = open[entry + 1];
            long[] taken = rightIf[entry * MOST_COLOURS + picked[entry]];
            for (int i = 0; i < words; i++) {
                after[i] = before[i] & ~taken[i];
            }
        }

        private int stillOpen() {
            int many = 0;
            for (int i = 0; i < words; i++) {
                many += Long.bitCount(open[entries][i]);
            }
            return many;
        }

        /** Goes on to the next way: the first entry that is another one then. */
        private int pickNext() {
            for (int entry = entries - 1; entry >= 0; entry--) {
                picked[entry]++;
                if (picked[entry] < colours[entry]) {
                    return entry;
                }
                picked[entry] = 0;
            }
            return entries;
        }
    }

    /** The games as they were ahead of the latest ACTS, in a ring with one place to spare. */
    private static final class History {
        private static final int PLACES = ACTS_KEPT + 1;

        private final Game[] games = new Game[PLACES];
        private int next = 0;
        int size = 0;

        History() {
            for (int i = 0; i < PLACES; i++) {
                games[i] = new Game();
            }
        }

        void forget() {
            size = 0;
        }

        /** Notes a game in the place to spare: nothing is forgotten, if it isn't kept then. */
        void note(Game game) {
            games[next].copy(game);
        }

        void keep() {
            next = (next + 1) % PLACES;
            size = Math.min(size + 1, ACTS_KEPT);
        }

        void goBack(Game game) {
            if (size > 0) {
                next = (next + PLACES - 1) % PLACES;
                size--;
                game.copy(games[next]);
            }
        }
    }

    /** A TEXT, taken apart into TOKENS. */
    private static final class Tokens {
        static final int END = 0;
        static final int WORD = 1;
        static final int NUMBER = 2;
        static final int SIGN = 3;
        static final int NEITHER = 4;

        static final int OTHER_WORD = 0;
        static final int PLAYERS = 1;
        static final int HATS = 2;
        static final int LINK = 3;
        static final int SEES = 4;
        static final int GUESS = 5;
        static final int SUM = 6;
        static final int SAME = 7;
        static final int NEXT = 8;
        static final int FIXED = 9;
        static final int TABLE = 10;

        private static final int LONGEST_WORD = 8;
        private static final int LONGEST_NUMBER = 2;

        // A TOKEN a byte at most, and the end of the text behind them.
        final int[] kind = new int[MOST_BYTES + 1];
        final int[] start = new int[MOST_BYTES + 1];
        final int[] value = new int[MOST_BYTES + 1];
        private final byte[] text;
        private int length = 0;

        Tokens(byte[] tape) {
            text = tape;
        }

        void split(int n) {
            length = Math.min(n, text.length);
            int found = 0;
            int at = afterBlanks(0);
            while (at < length && found < MOST_BYTES) {
                start[found] = at;
                at = afterBlanks(takeToken(found, at));
                found++;
            }
            kind[found] = END;
            start[found] = length;
        }

        private int afterBlanks(int from) {
            int at = from;
            while (at < length && (text[at] == 10 || text[at] == 32)) {
                at++;
            }
            return at;
        }

        private int takeToken(int token, int from) {
            if (isLetter(text[from])) {
                return takeWord(token, from);
            }
            if (isDigit(text[from])) {
                return takeNumber(token, from);
            }
            kind[token] = text[from] == ';' ? SIGN : NEITHER;
            return from + 1;
        }

        private int takeWord(int token, int from) {
            int at = from;
            while (at < length && isLetter(text[at])) {
                at++;
            }
            kind[token] = at - from <= LONGEST_WORD ? WORD : NEITHER;
            value[token] = meaning(from, at);
            return at;
        }

        private int takeNumber(int token, int from) {
            int at = from;
            int number = 0;
            while (at < length && isDigit(text[at])) {
                // A longer one is no TOKEN, so what falls off is never asked for.
                number = (number * 10 + text[at] - '0') % 100;
                at++;
            }
            kind[token] = at - from <= LONGEST_NUMBER ? NUMBER : NEITHER;
            value[token] = number;
            return at;
        }

        private int meaning(int from, int to) {
            for (int word = PLAYERS; word <= TABLE; word++) {
                if (isWord(from, to, spelling(word))) {
                    return word;
                }
            }
            return OTHER_WORD;
        }

        private static String spelling(int word) {
            switch (word) {
                case PLAYERS:
                    return "players";
                case HATS:
                    return "hats";
                case LINK:
                    return "link";
                case SEES:
                    return "sees";
                case GUESS:
                    return "guess";
                case SUM:
                    return "sum";
                case SAME:
                    return "same";
                case NEXT:
                    return "next";
                case FIXED:
                    return "fixed";
                default:
                    return "table";
            }
        }

        private boolean isWord(int from, int to, String word) {
            if (to - from != word.length()) {
                return false;
            }
            for (int i = 0; i < word.length(); i++) {
                if (text[from + i] != word.charAt(i)) {
                    return false;
                }
            }
            return true;
        }

        private static boolean isLetter(byte b) {
            return b >= 'a' && b <= 'z';
        }

        private static boolean isDigit(byte b) {
            return b >= '0' && b <= '9';
        }
    }

    /** Reads a TEXT from the tape into a game of its own, up to the first FAULT. */
    private static final class Reader {
        private static final int NO_TOKEN = 1;
        private static final int MISPLACED = 2;
        private static final int CANT_BE = 3;
        private static final int TOLD_ALREADY = 4;
        private static final int GREATEST_NUMBER = 99;

        final Game game = new Game();
        int fault = 0;
        int place = NONE;
        private final Tokens tokens;
        private int at = 0;
        private int number = 0;
        private final int[] guesses = new int[MOST_SITUATIONS];
        private int hatted = 0;
        private int guessed = 0;

        Reader(byte[] tape) {
            tokens = new Tokens(tape);
        }

        boolean read(int n) {
            tokens.split(n);
            game.clear(0);
            fault = 0;
            place = NONE;
            at = 0;
            hatted = 0;
            guessed = 0;
            boolean fine = true;
            // Each LINE takes a byte at least, so that the end comes before the bound does.
            for (int line = 0; fine && line <= MOST_BYTES; line++) {
                if (tokens.kind[at] == Tokens.END) {
                    return true;
                }
                fine = readLine();
            }
            return false;
        }

        private boolean readLine() {
            int word = wordHere();
            if (!mayBegin(word)) {
                return misplaced();
            }
            at++;
            switch (word) {
                case Tokens.PLAYERS:
                    return readPlayers() && readSign();
                case Tokens.HATS:
                    return readHats() && readSign();
                case Tokens.LINK:
                    return readSight(true) && readSign();
                case Tokens.SEES:
                    return readSight(false) && readSign();
                default:
                    return readGuess() && readSign();
            }
        }

        private boolean mayBegin(int word) {
            if (word == Tokens.PLAYERS) {
                return game.players == 0;
            }
            if (word == Tokens.GUESS) {
                return game.players > 0;
            }
            boolean ofNetwork = word == Tokens.HATS || word == Tokens.LINK || word == Tokens.SEES;
            return ofNetwork && game.players > 0 && guessed == 0;
        }

        private boolean readPlayers() {
            if (!readNumber(1, MOST_PLAYERS)) {
                return false;
            }
            game.players = number;
            return true;
        }

        private boolean readHats() {
            if (!readPlayer()) {
                return false;
            }
            int p = number;
            if ((hatted >> p & 1) == 1) {
                return fail(TOLD_ALREADY, at - 1);
            }
            hatted |= 1 << p;
            if (!readNumber(1, MOST_COLOURS)) {
                return false;
            }
            game.hats[p] = number;
            return true;
        }

        private boolean readSight(boolean mutual) {
            if (!readPlayer()) {
                return false;
            }
            int p = number;
            if (!readPlayer()) {
                return false;
            }
            int q = number;
            if (q == p) {
                return fail(CANT_BE, at - 1);
            }
            if (game.watches(p, q) || mutual && game.watches(q, p)) {
                return fail(TOLD_ALREADY, at - 1);
            }
            game.sees[p] |= 1 << q;
            if (mutual) {
                game.sees[q] |= 1 << p;
            }
            return true;
        }

        private boolean readGuess() {
            if (!readPlayer()) {
                return false;
            }
            int p = number;
            if ((guessed >> p & 1) == 1) {
                return fail(TOLD_ALREADY, at - 1);
            }
            guessed |= 1 << p;
            int rule = wordHere();
            if (rule < Tokens.SUM) {
                return misplaced();
            }
            at++;
            if (rule == Tokens.TABLE) {
                return readTable(p);
            }
            if (!readOfRule(p, rule)) {
                return false;
            }
            tellByRule(p, rule);
            return true;
        }

        /** The NUMBER of a RULE that has but one. */
        private boolean readOfRule(int p, int rule) {
            if (rule == Tokens.SUM) {
                return readNumber(0, GREATEST_NUMBER);
            }
            if (rule == Tokens.FIXED) {
                return readNumber(0, game.hats[p] - 1);
            }
            if (!readNumber(0, game.players - 1)) {
                return false;
            }
            return game.watches(p, number) || fail(CANT_BE, at - 1);
        }

        /** Each COLOUR that p sees counts less for sum, more for same and next of that PLAYER alone. */
        private void tellByRule(int p, int rule) {
            boolean copied = rule == Tokens.SAME || rule == Tokens.NEXT;
            int more = rule == Tokens.NEXT ? 1 : 0;
            int size = 1;
            guesses[0] = copied ? more : number;
            for (int q = 0; q < game.players; q++) {
                if (game.watches(p, q)) {
                    int weight = copied && q == number ? 1 : 0;
                    size = lengthen(guesses, size, game.hats[q], rule == Tokens.SUM ? -1 : weight);
                }
            }
            for (int s = 0; s < size; s++) {
                game.tell(p, s, Math.floorMod(guesses[s], game.hats[p]));
            }
        }

        private boolean readTable(int p) {
            int situations = game.situations(p);
            for (int s = 0; s < situations; s++) {
                if (!readNumber(0, game.hats[p] - 1)) {
                    return false;
                }
                game.tell(p, s, number);
            }
            return true;
        }

        private int wordHere() {
            return tokens.kind[at] == Tokens.WORD ? tokens.value[at] : Tokens.OTHER_WORD;
        }

        private boolean readPlayer() {
            return readNumber(0, game.players - 1);
        }

        private boolean readNumber(int from, int to) {
            if (tokens.kind[at] != Tokens.NUMBER) {
                return misplaced();
            }
            number = tokens.value[at];
            if (number < from || number > to) {
                return fail(CANT_BE, at);
            }
            at++;
            return true;
        }

        private boolean readSign() {
            if (tokens.kind[at] != Tokens.SIGN) {
                return misplaced();
            }
            at++;
            return true;
        }

        private boolean misplaced() {
            fault = tokens.kind[at] == Tokens.NEITHER ? NO_TOKEN : MISPLACED;
            place = tokens.start[at];
            return false;
        }

        private boolean fail(int what, int token) {
            fault = what;
            place = tokens.start[token];
            return false;
        }
    }

    /** Writes a game as a TEXT; OUT stays as it was, if that takes too many bytes. */
    private static final class Printer {
        byte[] text = new byte[MOST_BYTES];
        int length = 0;
        private byte[] draft = new byte[MOST_BYTES];
        private int drafted = 0;

        boolean write(Game game) {
            drafted = 0;
            if (game.players > 0) {
                addWord("players");
                addNumber(game.players);
                addByte(';');
            }
            addHats(game);
            addSights(game);
            addTables(game);
            if (drafted > MOST_BYTES) {
                return false;
            }
            byte[] old = text;
            text = draft;
            draft = old;
            length = drafted;
            return true;
        }

        private void addHats(Game game) {
            for (int p = 0; p < game.players; p++) {
                addWord("hats");
                addNumber(p);
                addNumber(game.hats[p]);
                addByte(';');
            }
        }

        private void addSights(Game game) {
            for (int p = 0; p < game.players; p++) {
                for (int q = 0; q < game.players; q++) {
                    if (game.watches(p, q)) {
                        addWord("sees");
                        addNumber(p);
                        addNumber(q);
                        addByte(';');
                    }
                }
            }
        }

        private void addTables(Game game) {
            for (int p = 0; p < game.players; p++) {
                addWord("guess");
                addNumber(p);
                addByte(' ');
                addWord("table");
                int situations = game.situations(p);
                for (int s = 0; s < situations; s++) {
                    addNumber(game.told(p, s));
                }
                addByte(';');
            }
        }

        private void addWord(String word) {
            for (int i = 0; i < word.length(); i++) {
                addByte(word.charAt(i));
            }
        }

        /** All numbers of a game as it is have one digit. */
        private void addNumber(int number) {
            addByte(' ');
            addByte((char) ('0' + number));
        }

        private void addByte(char sign) {
            if (drafted < MOST_BYTES) {
                draft[drafted] = (byte) sign;
            }
            drafted++;
        }
    }
}
