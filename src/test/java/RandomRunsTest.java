import java.lang.reflect.Method;
import java.util.ArrayList;
import java.util.Comparator;
import java.util.List;
import java.util.Random;

/** Runs of drawn calls, held against NaiveHatNet: every answer and every STATUS. */
public final class RandomRunsTest {
    private static final int RUNS = 500;
    private static final int LARGE_RUNS = 40;
    private static final int CALLS = 240;

    private final Check check = new Check("RandomRunsTest");
    private final List<Method> methods = new ArrayList<>();
    private Random random = new Random(0);
    private int players;
    /** Whether games are of five or six players, with up to 4,096 colourings. */
    private boolean large = false;

    public static void main(String[] args) throws Exception {
        new RandomRunsTest().run();
    }

    private void run() throws Exception {
        for (Method m : HatNet.class.getDeclaredMethods()) {
            if (java.lang.reflect.Modifier.isPublic(m.getModifiers())) {
                methods.add(m);
            }
        }
        methods.sort(Comparator.comparing(Method::getName));
        for (int run = 0; run < RUNS; run++) {
            random = new Random(1000 + run);
            oneRun(run);
        }
        large = true;
        for (int run = 0; run < LARGE_RUNS; run++) {
            random = new Random(run);
            oneRun(RUNS + run);
        }
        check.end();
    }

    private void oneRun(int run) throws Exception {
        HatNet x = new HatNet();
        NaiveHatNet y = new NaiveHatNet();
        for (int call = 0; call < CALLS; call++) {
            if (large ? call % 80 == 0 : call % 60 == 0 || random.nextInt(60) == 0) {
                both(run, x, y, large ? largeText() : random.nextInt(3) == 0 ? spoilt(text()) : text());
            }
            Method m = methods.get(random.nextInt(methods.size()));
            if (m.getName().equals("feed")) {
                continue;
            }
            Object[] with = arguments(m);
            Object got = m.invoke(x, with);
            Object want = NaiveHatNet.class.getMethod(m.getName(), m.getParameterTypes()).invoke(y, with);
            String what = "run " + run + ", call " + call + ": " + m.getName() + java.util.Arrays.toString(with);
            check.due(what, (Integer) got, (Integer) want);
            check.due(what + ", status", x.status(), y.status());
        }
    }

    private String largeText() {
        int n = 5 + random.nextInt(2);
        StringBuilder b = new StringBuilder("players " + n + ";");
        for (int p = 0; p < n; p++) {
            b.append("hats ").append(p).append(' ').append(random.nextInt(12) == 0 ? 1 : 2 + random.nextInt(3)).append(';');
        }
        for (int p = 0; p < n; p++) {
            for (int q = p + 1; q < n; q++) {
                int kind = random.nextInt(6);
                b.append(kind == 0 ? "" : kind == 1 ? "sees " + q + " " + p + ";" : "link " + p + " " + q + ";");
            }
        }
        for (int p = 0; p < n; p++) {
            b.append("guess ").append(p).append(" sum ").append(random.nextInt(100)).append(';');
        }
        return b.toString();
    }

    private void both(int run, HatNet x, NaiveHatNet y, String text) {
        for (int at = 0; at < text.length(); at += 20) {
            int a = Check.four(text, at);
            int b = Check.four(text, at + 4);
            int c = Check.four(text, at + 8);
            int d = Check.four(text, at + 12);
            int e = Check.four(text, at + 16);
            check.due("run " + run + ": feed", x.feed(a, b, c, d, e), y.feed(a, b, c, d, e));
        }
        String what = "run " + run + ": load " + text;
        check.due(what, x.load(text.length()), y.load(text.length()));
        check.due(what + ", status", x.status(), y.status());
        check.due(what + ", fault", x.fault(0), y.fault(0));
        check.due(what + ", place", x.fault(1), y.fault(1));
        players = y.many(0);
        check.due(what + ", players", x.many(0), players);
    }

    private Object[] arguments(Method m) {
        Class<?>[] types = m.getParameterTypes();
        Object[] with = new Object[types.length];
        for (int i = 0; i < types.length; i++) {
            with[i] = types[i] == boolean.class ? (Object) random.nextBoolean() : (Object) number(m.getName(), i);
        }
        return with;
    }

    private int number(String name, int i) {
        int kind = random.nextInt(20);
        if (kind == 0) {
            return random.nextInt(9) - 4;
        }
        if (kind == 1 && random.nextInt(4) == 0) {
            return new int[] {Integer.MIN_VALUE, Integer.MAX_VALUE, -1, 1 << 30, 999999999, 1000000000}[random.nextInt(6)];
        }
        switch (name + i) {
            case "right0", "nearest0", "situation1", "colour1":
                return random.nextInt(random.nextBoolean() ? 8 : large ? 4096 : 90);
            case "guess1", "bestAt1", "set1":
                return random.nextInt(random.nextBoolean() ? 3 : large ? 300 : 12);
            case "without0", "together0", "share0", "build0":
                return random.nextInt((1 << players) + 1);
            case "lost0":
                return random.nextInt(large ? 400 : 8) - 1;
            case "exact0", "atLeast0":
                return random.nextInt(8);
            case "shuffle0", "search0":
                return random.nextInt(1000000000);
            case "search1":
                return 1 + random.nextInt(3);
            case "out0":
                return random.nextInt(large ? 610 : 300);
            case "fault0", "many0", "player1", "crowd0", "nearest1", "share1", "ways0", "search2", "renumber0":
                return random.nextInt(4);
            case "often1", "known1", "rename1", "rename2", "set2":
                return random.nextInt(large ? 4 : 3);
            default:
                return random.nextInt(players + (random.nextInt(6) == 0 ? 1 : 0) + (players == 0 ? 1 : 0));
        }
    }

    /** A TEXT, most of the time a good one. */
    private String text() {
        StringBuilder b = new StringBuilder();
        int n = 1 + random.nextInt(random.nextInt(4) == 0 ? 6 : 4);
        int colours = n > 4 ? 2 : 2 + random.nextInt(3);
        add(b, "players " + n);
        int[] h = new int[n];
        for (int p = 0; p < n; p++) {
            h[p] = 2;
            if (random.nextBoolean()) {
                h[p] = 1 + random.nextInt(colours);
                add(b, "hats " + p + " " + h[p]);
            }
        }
        boolean[][] sees = new boolean[n][n];
        int full = random.nextInt(4);
        for (int p = 0; p < n; p++) {
            for (int q = 0; q < n; q++) {
                if (p == q || random.nextInt(4) > full) {
                    continue;
                }
                if (!sees[p][q] && !sees[q][p] && random.nextInt(3) > 0) {
                    sees[q][p] = true;
                    sees[p][q] = true;
                    add(b, "link " + p + " " + q);
                } else if (!sees[p][q]) {
                    sees[p][q] = true;
                    add(b, "sees " + p + " " + q);
                }
            }
        }
        for (int p = 0; p < n; p++) {
            if (random.nextInt(5) > 0) {
                add(b, "guess " + p + " " + rule(p, h, sees));
            }
        }
        return b.length() > 600 ? b.substring(0, 600) : b.toString();
    }

    private void add(StringBuilder b, String line) {
        b.append(line).append(random.nextInt(5) == 0 ? " ; \n" : ";");
    }

    private String rule(int p, int[] h, boolean[][] sees) {
        int situations = 1;
        int one = -1;
        for (int q = 0; q < h.length; q++) {
            if (sees[p][q]) {
                situations *= h[q];
                one = one < 0 || random.nextBoolean() ? q : one;
            }
        }
        switch (random.nextInt(5)) {
            case 0:
                return "sum " + random.nextInt(random.nextInt(5) == 0 ? 100 : h[p]);
            case 1:
                return one < 0 ? "fixed 0" : "same " + one;
            case 2:
                return one < 0 ? "fixed 0" : "next " + one;
            case 3:
                return "fixed " + random.nextInt(h[p]);
            default:
                StringBuilder b = new StringBuilder("table");
                for (int s = 0; s < situations; s++) {
                    b.append(' ').append(random.nextInt(h[p]));
                }
                return b.toString();
        }
    }

    private String spoilt(String text) {
        StringBuilder b = new StringBuilder(text);
        String signs = "0123456; \nabz.A{/:\u0000\u00ff";
        for (int i = random.nextInt(3); i >= 0 && b.length() > 0; i--) {
            int at = random.nextInt(b.length());
            switch (random.nextInt(4)) {
                case 0 -> b.setCharAt(at, signs.charAt(random.nextInt(signs.length())));
                case 1 -> b.deleteCharAt(at);
                case 2 -> b.setLength(at);
                default -> b.insert(at, signs.charAt(random.nextInt(signs.length())));
            }
        }
        return b.length() > 600 ? b.substring(0, 600) : b.toString();
    }
}
