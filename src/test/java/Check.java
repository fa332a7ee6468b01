/** Counts answers that are as due, and tells those that are not. */
public final class Check {
    private final String name;
    private int passed = 0;
    private int failed = 0;

    public Check(String name) {
        this.name = name;
    }

    public void due(String what, long got, long want) {
        if (got == want) {
            passed++;
            return;
        }
        failed++;
        if (failed <= 40) {
            System.out.println(name + ": " + what + " answered " + got + ", due is " + want);
        }
    }

    /** An answer that a call gives with STATUS 0. */
    public void fine(String what, HatNet x, int got, int want) {
        due(what, got, want);
        due(what + ", status", x.status(), 0);
    }

    /** A call that is refused. */
    public void refused(String what, HatNet x, int got, int status) {
        due(what, got, HatNet.NONE);
        due(what + ", status", x.status(), status);
    }

    public void end() {
        System.out.println(name + ": " + passed + " passed, " + failed + " failed");
        if (failed != 0) {
            System.exit(1);
        }
    }

    /** Puts a text on the tape, with 0 behind it up to a multiple of 20 bytes. */
    public static void feed(HatNet x, String text) {
        for (int at = 0; at < text.length(); at += 20) {
            x.feed(four(text, at), four(text, at + 4), four(text, at + 8), four(text, at + 12),
                four(text, at + 16));
        }
    }

    public static int four(String text, int at) {
        int value = 0;
        for (int i = at; i < at + 4; i++) {
            value = value << 8 | (i < text.length() ? text.charAt(i) & 255 : 0);
        }
        return value;
    }

    /** A new object with a game. */
    public static HatNet game(String text) {
        HatNet x = new HatNet();
        load(x, text);
        return x;
    }

    public static int load(HatNet x, String text) {
        feed(x, text);
        return x.load(text.length());
    }

    /** All of OUT, read byte by byte. */
    public static String out(HatNet x) {
        StringBuilder b = new StringBuilder();
        for (int i = 0; i <= 600; i++) {
            int c = x.out(i);
            if (c == HatNet.NONE) {
                break;
            }
            b.append((char) c);
        }
        return b.toString();
    }
}
