import java.util.ArrayList;
import java.util.List;
import java.util.function.IntUnaryOperator;
import java.util.regex.Matcher;
import java.util.regex.Pattern;

/** What tests of sentences are made of. Each test has an object of its own. */
abstract class Sentences {
    static final int MIN = Integer.MIN_VALUE;
    static final int MAX = Integer.MAX_VALUE;
    static final int NONE = HatNet.NONE;

    private static final Pattern PLAYERS = Pattern.compile("players\\s+(\\d+)");

    static final int BAD_NUMBER = 1;
    static final int NO_SUCH = 2;
    static final int TOO_MANY = 3;
    static final int SO_ALREADY = 4;
    static final int THERE_IS_NONE = 5;
    static final int NOT_SEEN = 7;
    static final int FAULTY = 9;

    HatNet x = new HatNet();
    final List<String> troubles = new ArrayList<>();
    int looks = 0;

    /** An answer of a call that has no STATUS. */
    final void same(int got, int want) {
        looks++;
        if (got != want) {
            troubles.add("line " + line() + ": answered " + got + ", due is " + want);
        }
    }

    final void same(String got, String want) {
        looks++;
        if (!got.equals(want)) {
            troubles.add("line " + line() + ": got " + got + ", due is " + want);
        }
    }

    /** An answer that a call of x gives with STATUS 0. */
    final void fine(int got, int want) {
        same(got, want);
        same(x.status(), 0);
    }

    /** A call of x that is refused. */
    final void refused(int got, int status) {
        same(got, NONE);
        same(x.status(), status);
    }

    /** From the first number to the last one a call is not refused with this STATUS; beyond it is. */
    final void bounds(int status, int first, int last, IntUnaryOperator call) {
        for (int n : new int[] {MIN, first - 1, last + 1, MAX}) {
            refused(call.applyAsInt(n), status);
        }
        for (int n : new int[] {first, last}) {
            call.applyAsInt(n);
            same(x.status() == status ? 1 : 0, 0);
        }
    }

    final void tape(String text) {
        Check.feed(x, text);
    }

    /** A new object with a game. */
    final void game(String text) {
        x = new HatNet();
        Matcher players = PLAYERS.matcher(text);
        loads(text, players.find() ? Integer.parseInt(players.group(1)) : 0);
    }

    final void loads(String text, int players) {
        fine(Check.load(x, text), players);
        same(x.fault(0), 0);
        same(x.fault(1), NONE);
    }

    /** A new object is told a text with a FAULT of a kind, where ^ stands (which isn't told). */
    final void fault(int kind, String marked) {
        int place = marked.indexOf('^');
        x = new HatNet();
        refused(Check.load(x, marked.substring(0, place) + marked.substring(place + 1)), FAULTY);
        same(x.fault(0), kind);
        same(x.fault(1), place);
    }

    /** All of the game, as a text. */
    final String printed() {
        int length = x.print();
        String text = Check.out(x);
        same(text.length(), length);
        return text;
    }

    /** The TABLE of a PLAYER, digit by digit. */
    final String table(int p) {
        StringBuilder digits = new StringBuilder();
        int situations = x.player(p, 3);
        for (int s = 0; s < situations; s++) {
            digits.append(x.guess(p, s));
        }
        return digits.toString();
    }

    private int line() {
        for (StackTraceElement frame : new Throwable().getStackTrace()) {
            if (!frame.getClassName().equals("Sentences")) {
                return frame.getLineNumber();
            }
        }
        return 0;
    }
}
