/** Every promise by its number: ordinary inputs, the edges that the document names, wrong inputs. */
public final class PromisesTest {
    private static final int MIN = Integer.MIN_VALUE;
    private static final int MAX = Integer.MAX_VALUE;

    /** The first wins: one guesses what it sees, the other one more. */
    private static final String TWO = "players 2;link 0 1;guess 0 same 1;guess 1 next 0;";
    private static final String THREE = "players 3;hats 0 3;hats 1 3;hats 2 3;link 0 1;link 0 2;link 1 2;"
        + "guess 0 sum 0;guess 1 sum 1;guess 2 sum 2;";
    private static final String FOUR = "players 4;link 0 1;link 0 2;link 0 3;link 1 2;link 2 3;link 1 3;";
    /** Of 2, 3 and 1 COLOURS; only 0 sees, and only 1. */
    private static final String MIXED = "players 3;hats 0 2;hats 1 3;hats 2 1;sees 0 1;"
        + "guess 0 table 0 1 1;guess 1 fixed 2;";
    private static final String WHEEL = "players 5;link 0 1;link 1 2;link 2 3;link 3 0;link 4 0;link 4 1;"
        + "link 4 2;link 4 3;";
    private static final String RING_OF_THREES = "players 4;hats 0 3;hats 1 3;hats 2 3;hats 3 3;link 0 1;link 1 2;"
        + "link 2 3;link 3 0;";
    private static final String LINE = "players 3;link 0 1;link 1 2;";

    private final Check c = new Check("PromisesTest");

    public static void main(String[] args) {
        PromisesTest t = new PromisesTest();
        t.objectAndTape();
        t.loading();
        t.faults();
        t.faultsOfRules();
        t.counts();
        t.tables();
        t.colourings();
        t.crowdsAndSight();
        t.lostOnes();
        t.bounds();
        t.ways();
        t.search();
        t.renumbered();
        t.networks();
        t.set();
        t.takeAndBetter();
        t.build();
        t.rename();
        t.see();
        t.shuffle();
        t.undo();
        t.printed();
        t.nobody();
        t.largest();
        t.c.end();
    }

    /** Promises 1, 2, 3. */
    private void objectAndTape() {
        HatNet x = new HatNet();
        c.due("1: status", x.status(), 0);
        c.fine("1: players", x, x.many(0), 0);
        c.refused("2: load", x, x.load(1), 1);
        c.due("2: status again", x.status(), 1);
        c.due("2: feed has none", x.feed(0, 0, 0, 0, 0), 20);
        c.due("2: status after feed", x.status(), 1);
        c.due("2: fault has none", x.fault(0), HatNet.NONE);
        c.due("2: status after fault", x.status(), 1);
        c.fine("2: many", x, x.many(1), 0);
        HatNet y = new HatNet();
        for (int i = 1; i <= 30; i++) {
            c.due("3: feed " + i, y.feed(MIN, MAX, -1, i, 0), 20 * i);
        }
        c.due("3: more than 600", y.feed(0, 0, 0, 0, 0), HatNet.NONE);
        c.due("3: status", y.status(), 0);
        c.refused("3: nothing changed", y, y.load(601), 1);
        c.refused("3: the tape stays", y, y.load(600), 9);
        c.due("3: it begins anew", y.feed(1, 2, 3, 4, 5), 20);
        HatNet z = new HatNet();
        z.feed(0x706c6179, 0x65727320, 0x333b0000, 0, 0);
        c.fine("3: the highest byte first", z, z.load(10), 3);
    }

    /** Promise 4. */
    private void loading() {
        HatNet x = new HatNet();
        Check.feed(x, TWO);
        c.refused("4: below 0", x, x.load(-1), 1);
        c.refused("4: least int", x, x.load(MIN), 1);
        c.refused("4: above the tape", x, x.load(61), 1);
        c.refused("4: greatest int", x, x.load(MAX), 1);
        c.fine("4: load", x, x.load(49), 2);
        c.refused("4: the tape is empty", x, x.load(1), 1);
        Check.feed(x, "players 3");
        c.refused("4: a fault", x, x.load(9), 9);
        c.fine("4: the game stays", x, x.many(0), 2);
        c.refused("4: the tape is empty after a fault", x, x.load(1), 1);
        c.fine("4: the game still stays", x, x.guess(1, 0), 1);
        c.fine("4: an act", x, x.set(0, 0, 1), 1);
        c.refused("4: a fault", x, Check.load(x, "x"), 9);
        c.fine("4: acts are kept then", x, x.many(4), 1);
        c.fine("4: load forgets acts", x, Check.load(x, TWO), 2);
        c.fine("4: none left", x, x.many(4), 0);
        c.fine("4: only the first n bytes", x, Check.load(x, "players 1;"), 1);
        Check.feed(x, "players 2;players 3;");
        c.fine("4: the rest is not read", x, x.load(10), 2);
        c.fine("4: blanks", x, Check.load(x, " \n players\n\n2 ;\n hats 0  3;link 0 1 ; "), 2);
        c.fine("4: none needed between unlike ones", x, Check.load(x, "players6;hats0 4;link0 1;guess0same1;"), 6);
        c.fine("4: two digits", x, Check.load(x, "players 06;hats 05 04;link 00 01;"), 6);
        c.fine("4: no LINES, no PLAYERS", x, x.load(0), 0);
        c.fine("4: none then", x, x.many(0), 0);
        c.fine("4: 600 bytes", x, Check.load(x, "players 1;" + " ".repeat(590)), 1);
        c.fine("4: sees each other in two lines", x, Check.load(x, "players 2;sees 0 1;sees 1 0;"), 2);
        c.fine("4: a link", x, x.many(3), 1);
    }

    private void fault(String text, int kind, int place) {
        HatNet x = new HatNet();
        c.refused("5: " + text, x, Check.load(x, text), 9);
        c.due("5: fault of " + text, x.fault(0), kind);
        c.due("5: place of " + text, x.fault(1), place);
    }

    private void noFault(String text, int players) {
        HatNet x = new HatNet();
        c.fine("5: " + text, x, Check.load(x, text), players);
        c.due("5: no fault of " + text, x.fault(0), 0);
        c.due("5: no place of " + text, x.fault(1), HatNet.NONE);
    }

    /** Promise 5, and Terms 1. */
    private void faults() {
        HatNet x = new HatNet();
        c.due("5: ahead of any", x.fault(0), HatNet.NONE);
        c.due("5: ahead of any, place", x.fault(1), HatNet.NONE);
        x.load(1);
        c.due("5: STATUS 1 tells nothing", x.fault(0), HatNet.NONE);
        Check.load(x, "players 0;");
        c.due("5: fault", x.fault(0), 3);
        c.due("5: place", x.fault(1), 8);
        c.due("5: others", x.fault(2), HatNet.NONE);
        c.due("5: below 0", x.fault(-1), HatNet.NONE);
        x.load(1);
        c.due("5: of the latest with STATUS 0 or 9", x.fault(0), 3);
        Check.load(x, TWO);
        c.due("5: without one", x.fault(0), 0);
        c.due("5: no place", x.fault(1), HatNet.NONE);
        fault("Players 2;", 1, 0);
        fault("playersss 2;", 1, 0);
        fault("playerss 2;", 2, 0);
        fault("players 002;", 1, 8);
        fault("players 2\t;", 1, 9);
        fault("players \u00e9;", 1, 8);
        fault("players -1;", 1, 8);
        fault("players 7;", 3, 8);
        fault("players 0;", 3, 8);
        fault("players 99;", 3, 8);
        fault("players x;", 2, 8);
        fault("players ;", 2, 8);
        fault("players", 2, 7);
        fault("players 2", 2, 9);
        fault("players 2  ", 2, 11);
        fault("players 2 2;", 2, 10);
        fault("; players 2;", 2, 0);
        fault("2", 2, 0);
        fault("hats 0 2;players 2;", 2, 0);
        fault("guess 0 fixed 0;", 2, 0);
        fault("link 0 1;", 2, 0);
        fault("players 2;players 2;", 2, 10);
        fault("players 2;;", 2, 10);
        fault("players 2;hat 0 2;", 2, 10);
        fault("players 2;sum 0;", 2, 10);
        fault("players 2;hats 2 2;", 3, 15);
        fault("players 2;hats 0 0;", 3, 17);
        fault("players 2;hats 0 5;", 3, 17);
        fault("players 2;hats 0 3;hats 0 3;", 4, 24);
        fault("players 2;hats 0 3;hats 0 9;", 4, 24);
        fault("players 2;link 0 2;", 3, 17);
        fault("players 2;link 2 0;", 3, 15);
        fault("players 2;link 1 1;", 3, 17);
        fault("players 2;sees 1 1;", 3, 17);
        fault("players 2;sees 0 1;sees 0 1;", 4, 26);
        fault("players 2;sees 0 1;link 0 1;", 4, 26);
        fault("players 2;sees 0 1;link 1 0;", 4, 26);
        fault("players 2;link 0 1;sees 1 0;", 4, 26);
        fault("players 2;link 0 1", 2, 18);
        fault("players 2;link 0 A;link 0 1;", 1, 17);
        fault("a1".repeat(300), 2, 0);
        fault(";".repeat(600), 2, 0);
        fault("1a".repeat(300), 2, 0);
        fault("players 1;" + " ".repeat(589) + "1", 2, 599);
        noFault("players 2;sees 0 1;sees 1 0;", 2);
        noFault("", 0);
        noFault(" \n ", 0);
        noFault("players 3;link 0 1;hats 0 4;sees 2 0;hats 2 1;", 3);
    }

    /** Promise 5, and Terms 1 and 2. */
    private void faultsOfRules() {
        String two = "players 2;link 0 1;";
        fault(two + "guess 2 sum 0;", 3, 25);
        fault(two + "guess 0 sum 0;guess 0 sum 0;", 4, 39);
        fault(two + "guess 0 sum 0;hats 1 2;", 2, 33);
        fault(two + "guess 0 sum 0;link 0 1;", 2, 33);
        fault(two + "guess 0 sum 0;sees 0 1;", 2, 33);
        fault(two + "guess 0 sum 0;players 2;", 2, 33);
        fault(two + "guess 0 hats 0;", 2, 27);
        fault(two + "guess 0 0;", 2, 27);
        fault(two + "guess 0 sum;", 2, 30);
        fault(two + "guess 0 sum 100;", 1, 31);
        fault(two + "guess 0 same 0;", 3, 32);
        fault(two + "guess 0 same 2;", 3, 32);
        fault(two + "guess 0 next 0;", 3, 32);
        fault("players 3;sees 0 1;guess 1 same 0;", 3, 32);
        fault("players 3;sees 0 1;guess 1 next 0;", 3, 32);
        fault(two + "guess 0 fixed 2;", 3, 33);
        fault(two + "guess 0 fixed;", 2, 32);
        fault(two + "guess 0 table;", 2, 32);
        fault(two + "guess 0 table 0;", 2, 34);
        fault(two + "guess 0 table 0 2;", 3, 35);
        fault(two + "guess 0 table 0 1 2;", 2, 37);
        fault(two + "guess 0 table 0 1 222;", 1, 37);
        fault(two + "guess 0 table 0 1", 2, 36);
        noFault("players 2;guess 0 table 1;", 2);
        noFault(two + "guess 1 sum 99;guess 0 table 0 1;", 2);
        HatNet x = Check.game("players 2;hats 0 4;hats 1 3;link 0 1;guess 0 sum 9;guess 1 same 0;");
        c.fine("8: sum", x, x.guess(0, 0), 1);
        c.fine("8: sum, less", x, x.guess(0, 2), 3);
        c.fine("8: same modulo", x, x.guess(1, 3), 0);
        c.fine("8: same", x, x.guess(1, 2), 2);
        HatNet y = Check.game("players 3;hats 0 2;hats 1 4;link 0 1;sees 0 2;guess 0 next 1;guess 1 next 0;");
        c.fine("8: next", y, y.guess(0, 2 * 2), 1);
        c.fine("8: next modulo", y, y.guess(0, 3 * 2 + 1), 0);
        c.fine("8: next with more colours", y, y.guess(1, 1), 2);
        c.fine("8: fixed 0 without", y, y.guess(2, 0), 0);
    }

    /** Promises 6, 7. */
    private void counts() {
        HatNet x = Check.game(MIXED);
        int[] mixed = {3, 6, 1, 0, 0, 0};
        for (int what = 0; what < 6; what++) {
            c.fine("6: mixed " + what, x, x.many(what), mixed[what]);
        }
        c.refused("6: above", x, x.many(6), 1);
        c.refused("6: below", x, x.many(-1), 1);
        HatNet w = Check.game(WHEEL);
        int[] wheel = {5, 32, 16, 8, 0, 1};
        for (int what = 0; what < 6; what++) {
            c.fine("6: wheel " + what, w, w.many(what), wheel[what]);
        }
        w.set(0, 0, 1);
        c.fine("6: acts", w, w.many(4), 1);
        HatNet y = Check.game("players 3;hats 0 4;hats 2 3;link 0 2;sees 2 1;");
        int[][] due = {{4, 4, 4, 3}, {2, 0, 4, 1}, {3, 3, 1, 8}};
        for (int p = 0; p < 3; p++) {
            for (int what = 0; what < 4; what++) {
                c.fine("7: player " + p + " " + what, y, y.player(p, what), due[p][what]);
            }
        }
        c.refused("7: what above", y, y.player(0, 4), 1);
        c.refused("7: what below", y, y.player(0, -1), 1);
        c.refused("7: 1 ahead of 2", y, y.player(9, 9), 1);
        c.refused("7: no such", y, y.player(3, 0), 2);
        c.refused("7: below 0", y, y.player(-1, 0), 2);
    }

    /** Promises 8 to 14. */
    private void tables() {
        HatNet x = Check.game("players 3;hats 0 2;hats 1 3;hats 2 4;sees 0 1;sees 0 2;sees 1 2;"
            + "guess 0 table 0 0 0 0 0 0 0 0 1 1 1 1;guess 1 table 2 0 2 2;");
        c.fine("8: guess", x, x.guess(0, 8), 1);
        c.fine("8: guess", x, x.guess(1, 3), 2);
        c.refused("8: no situation", x, x.guess(0, 12), 2);
        c.refused("8: below", x, x.guess(0, -1), 2);
        c.refused("8: no player", x, x.guess(3, 0), 2);
        // 17 of 2 * 3 * 4: the COLOURS 1, 1, 1.
        c.fine("9: situation", x, x.situation(0, 17), 5);
        c.fine("9: of one that sees one", x, x.situation(1, 17), 1);
        c.fine("9: of one that sees nobody", x, x.situation(2, 17), 0);
        c.refused("9: no colouring", x, x.situation(0, 24), 2);
        c.refused("9: below", x, x.situation(0, -1), 2);
        c.refused("9: no player", x, x.situation(3, 0), 2);
        c.fine("10: colour", x, x.colour(0, 11), 0);
        c.fine("10: colour", x, x.colour(1, 11), 2);
        c.fine("10: colour", x, x.colour(2, 11), 3);
        c.fine("10: the highest", x, x.colour(0, 12), 1);
        c.refused("10: no colouring", x, x.colour(0, 24), 2);
        c.refused("10: no player", x, x.colour(-1, 0), 2);
        c.fine("11: often", x, x.often(0, 1), 4);
        c.fine("11: often", x, x.often(1, 2), 3);
        c.fine("11: never", x, x.often(1, 1), 0);
        c.refused("11: no colour", x, x.often(0, 2), 2);
        c.refused("11: below", x, x.often(0, -1), 2);
        c.refused("11: no player", x, x.often(3, 0), 2);
        c.fine("12: heeds", x, x.heeds(0, 1), 1);
        c.fine("12: heeds not", x, x.heeds(0, 2), 0);
        c.fine("12: heeds", x, x.heeds(1, 2), 1);
        c.refused("12: not seen", x, x.heeds(1, 0), 7);
        c.refused("12: itself", x, x.heeds(1, 1), 4);
        c.refused("12: no such", x, x.heeds(1, 3), 2);
        c.fine("13: heeded", x, x.heeded(0), 2);
        c.fine("13: heeded", x, x.heeded(1), 4);
        c.fine("13: sees nobody", x, x.heeded(2), 0);
        c.refused("13: no player", x, x.heeded(3), 2);
        // 0 guesses otherwise when COLOUR 2 of 1 is shown in the place of 0 or 1, or the other way round.
        c.fine("14: fooled", x, x.fooled(0, 1), 24);
        c.fine("14: never", x, x.fooled(0, 2), 0);
        c.refused("14: not seen", x, x.fooled(2, 0), 7);
        c.refused("14: itself", x, x.fooled(0, 0), 4);
        c.refused("14: no such", x, x.fooled(-1, 0), 2);
        HatNet y = Check.game("players 3;link 0 1;sees 0 2;guess 0 table 0 0 0 1;");
        c.fine("14: in some", y, y.fooled(0, 1), 4);
        c.fine("14: in some", y, y.fooled(0, 2), 4);
        c.fine("14: guesses that don't change", y, y.fooled(1, 0), 0);
    }

    /** Promises 15 to 21, 29. */
    private void colourings() {
        HatNet x = Check.game(MIXED);
        // 0 guesses 0, 1, 1 by the COLOUR of 1; 1 guesses 2; 2 has but one COLOUR.
        int[] right = {5, 4, 6, 4, 5, 7};
        for (int i = 0; i < 6; i++) {
            c.fine("15: right " + i, x, x.right(i), right[i]);
        }
        c.refused("15: none such", x, x.right(6), 2);
        c.refused("15: below", x, x.right(-1), 2);
        c.fine("16: how many", x, x.lost(HatNet.NONE), 0);
        c.refused("16: not so many", x, x.lost(0), 5);
        c.fine("17: exact 1", x, x.exact(1), 2);
        c.fine("17: exact 2", x, x.exact(2), 3);
        c.fine("17: exact 3", x, x.exact(3), 1);
        c.fine("17: exact 0", x, x.exact(0), 0);
        c.fine("17: exact 6", x, x.exact(6), 0);
        c.refused("17: above", x, x.exact(7), 1);
        c.refused("17: below", x, x.exact(-1), 1);
        c.fine("18: alone", x, x.alone(2), 2);
        c.fine("18: never alone", x, x.alone(0), 0);
        c.refused("18: none such", x, x.alone(3), 2);
        c.fine("19: both", x, x.both(0, 2), 3);
        c.fine("19: both", x, x.both(1, 0), 1);
        c.refused("19: itself", x, x.both(1, 1), 4);
        c.refused("19: none such", x, x.both(1, 3), 2);
        c.refused("19: 2 ahead of 4", x, x.both(3, 3), 2);
        c.fine("20: without", x, x.without(3), 2);
        c.fine("20: without", x, x.without(1), 3);
        c.fine("20: without", x, x.without(2), 4);
        c.fine("20: all", x, x.without(7), 0);
        c.refused("20: empty", x, x.without(0), 2);
        c.refused("20: others", x, x.without(8), 2);
        c.refused("20: below", x, x.without(MIN), 2);
        c.fine("21: together", x, x.together(7), 1);
        c.fine("21: one", x, x.together(4), 6);
        c.refused("21: empty", x, x.together(0), 2);
        c.refused("21: others", x, x.together(9), 2);
        c.fine("29: one or more", x, x.atLeast(1), 6);
        c.fine("29: two or more", x, x.atLeast(2), 4);
        c.fine("29: none or more", x, x.atLeast(0), 6);
        c.fine("29: six", x, x.atLeast(6), 0);
        c.refused("29: above", x, x.atLeast(7), 1);
        c.refused("29: below", x, x.atLeast(-1), 1);
        HatNet l = Check.game("players 3;hats 0 3;guess 0 fixed 1;guess 1 fixed 1;");
        // Lost are 0 x 0, 2 with 0 and 1: 0 0 1 and 2 0 1.
        c.fine("16: how many", l, l.lost(-1), 2);
        c.fine("16: first", l, l.lost(0), 1);
        c.fine("16: second", l, l.lost(1), 9);
        c.refused("16: third", l, l.lost(2), 5);
        c.refused("16: below NONE", l, l.lost(-2), 1);
        c.refused("16: least int", l, l.lost(MIN), 1);
    }

    /** Promises 22 to 26. */
    private void crowdsAndSight() {
        HatNet x = Check.game(MIXED);
        c.fine("22: most", x, x.crowd(0), 3);
        c.fine("22: first", x, x.crowd(1), 5);
        c.fine("22: how many", x, x.crowd(2), 1);
        c.refused("22: above", x, x.crowd(3), 1);
        c.refused("22: below", x, x.crowd(-1), 1);
        HatNet f = Check.game("players 2;hats 0 4;hats 1 4;sees 0 1;guess 0 fixed 3;guess 1 fixed 1;");
        c.fine("22: two COLOURINGS of one", f, f.crowd(2), 1);
        c.fine("22: first of f", f, f.crowd(1), 13);
        // 0 guesses 3 and 0, 1 guesses 1 and 2: lost are 1, 2 with 0, 3.
        c.fine("23: twice", f, f.twice(), 4);
        c.fine("23: once", f, f.lost(-1), 9);
        HatNet t = Check.game(TWO);
        c.fine("24: blinded", t, t.blinded(0, 1), 1);
        c.fine("24: nothing changed", t, t.many(2), 2);
        c.refused("24: itself", t, t.blinded(0, 0), 4);
        c.refused("24: none such", t, t.blinded(0, 2), 2);
        c.refused("24: not seen", x, x.blinded(1, 0), 7);
        c.fine("24: one that isn't heeded", f, f.blinded(0, 1), 9);
        HatNet w = Check.game("players 3;hats 0 3;link 0 1;link 1 2;guess 0 same 1;guess 1 next 0;guess 2 same 1;");
        // Seen as 0 by 0: 0 guesses 0. Seen as 0 by 1: 1 guesses 1. Seen as 0 by 2: 2 guesses 0.
        int pair = worst(w, false);
        int most = worst(w, true);
        c.fine("25: the pair", w, w.weakest(false), pair);
        c.fine("25: how many", w, w.weakest(true), most);
        c.fine("25: several, the least", t, t.weakest(false), 1);
        c.fine("25: how many of two", t, t.weakest(true), 1);
        HatNet n = Check.game("players 2;");
        c.refused("25: nobody sees anybody", n, n.weakest(true), 5);
        c.fine("26: one is enough", x, x.needed(), 4);
        c.fine("26: all are needed", t, t.needed(), 3);
        HatNet m = Check.game("players 3;link 1 2;guess 1 same 2;guess 2 next 1;");
        c.fine("26: the two who win", m, m.needed(), 6);
        HatNet s = Check.game("players 2;hats 0 1;hats 1 1;");
        c.fine("26: several, the least", s, s.needed(), 1);
    }

    /** By blinded() of all pairs, which is tested by itself. */
    private int worst(HatNet x, boolean lost) {
        int most = -1;
        int pair = -1;
        for (int code = 0; code < 36; code++) {
            int then = x.blinded(code / 6, code % 6);
            if (then > most) {
                most = then;
                pair = code;
            }
        }
        return lost ? most : pair;
    }

    /** Promises 27, 28. */
    private void lostOnes() {
        HatNet l = Check.game("players 3;hats 0 3;guess 0 fixed 1;guess 1 fixed 1;");
        c.fine("27: known", l, l.known(0, 0), 1);
        c.fine("27: known", l, l.known(0, 1), 0);
        c.fine("27: known", l, l.known(1, 0), 2);
        c.refused("27: no colour", l, l.known(1, 2), 2);
        c.refused("27: below", l, l.known(1, -1), 2);
        c.refused("27: no player", l, l.known(3, 0), 2);
        c.fine("28: it is", l, l.nearest(9, 0), 0);
        c.fine("28: it is itself", l, l.nearest(9, 1), 9);
        // 1 1 0 is as far from 0 0 1 as from 2 0 1.
        c.fine("28: how far", l, l.nearest(6, 0), 3);
        c.fine("28: the first", l, l.nearest(6, 1), 1);
        c.fine("28: the nearest, not the first", l, l.nearest(11, 1), 9);
        c.fine("28: how far", l, l.nearest(11, 0), 1);
        c.refused("28: what", l, l.nearest(0, 2), 1);
        c.refused("28: what below", l, l.nearest(99, -1), 1);
        c.refused("28: none such", l, l.nearest(12, 0), 2);
        c.refused("28: below", l, l.nearest(-1, 0), 2);
        HatNet t = Check.game(TWO);
        c.refused("28: none is LOST", t, t.nearest(0, 0), 5);
        c.refused("28: 2 ahead of 5", t, t.nearest(4, 0), 2);
    }

    /** Promises 30 to 37. */
    private void bounds() {
        HatNet x = Check.game("players 4;hats 1 3;hats 2 4;sees 0 1;sees 1 2;sees 0 2;sees 3 2;");
        c.fine("30: acyclic", x, x.acyclic(), 1);
        c.fine("31: always", x, x.always(), 6);
        HatNet y = Check.game("players 3;sees 0 1;sees 1 2;sees 2 0;");
        c.fine("30: round", y, y.acyclic(), 0);
        c.refused("31: it is not", y, y.always(), 5);
        HatNet t = Check.game(TWO);
        c.fine("30: a link", t, t.acyclic(), 0);
        HatNet m = Check.game(MIXED);
        c.fine("31: who has one COLOUR", m, m.always(), 0);
        c.fine("32: blind", x, x.blind(), 9);
        c.fine("32: of several the least", y, y.blind(), 1);
        HatNet b = Check.game("players 4;link 0 1;link 0 2;link 0 3;");
        c.fine("32: the greatest", b, b.blind(), 14);
        HatNet a = Check.game("players 3;");
        c.fine("32: all", a, a.blind(), 7);
        c.fine("33: above", x, x.share(15, 0), 19);
        c.fine("33: below", x, x.share(15, 1), 12);
        c.fine("33: lowest terms", x, x.share(9, 0), 1);
        c.fine("33: lowest terms", x, x.share(9, 1), 1);
        c.fine("33: one", x, x.share(4, 0), 1);
        c.fine("33: one", x, x.share(4, 1), 4);
        c.fine("33: two", x, x.share(5, 0), 3);
        c.fine("33: two", x, x.share(5, 1), 4);
        c.refused("33: what", x, x.share(1, 2), 1);
        c.refused("33: 1 ahead of 2", x, x.share(0, -1), 1);
        c.refused("33: empty", x, x.share(0, 0), 2);
        c.refused("33: others", x, x.share(16, 1), 2);
        c.fine("34: 0 at least", x, x.least(), 0);
        HatNet l = Check.game("players 2;hats 0 3;hats 1 4;link 0 1;");
        c.fine("34: least", l, l.least(), 5);
        c.fine("35: of several the least", x, x.clique(), 1);
        HatNet k = Check.game("players 5;hats 0 4;hats 1 4;hats 2 4;hats 3 2;hats 4 3;"
            + "link 0 1;link 1 2;link 0 2;link 3 4;sees 2 3;");
        c.fine("35: clique", k, k.clique(), 7);
        c.fine("36: strongest", k, k.strongest(), 24);
        c.fine("37: none", k, k.sure(), 0);
        HatNet w = Check.game(WHEEL);
        c.fine("35: wheel", w, w.clique(), 19);
        HatNet f = Check.game(FOUR);
        c.fine("37: sure", f, f.sure(), 11);
        c.fine("36: all", f, f.strongest(), 15);
        c.fine("36: of several the least", x, x.strongest(), 1);
        c.fine("37: alone with one COLOUR", m, m.sure(), 1);
        c.fine("36: alone with one COLOUR", m, m.strongest(), 4);
        HatNet s = Check.game("players 3;hats 0 2;hats 1 3;hats 2 1;link 0 1;link 0 2;link 1 2;");
        c.fine("37: those with 2, and none else", s, s.sure(), 4);
    }

    /** Promises 38 to 41. */
    private void ways() {
        HatNet t = Check.game("players 2;link 0 1;guess 1 same 0;");
        // 1 is right in 0 0 and 1 1: 0 must guess 1, shown 0, and 0, shown 1.
        c.fine("38: best", t, t.best(0), 0);
        c.fine("39: bestAt", t, t.bestAt(0, 0), 1);
        c.fine("39: bestAt", t, t.bestAt(0, 1), 0);
        c.refused("39: no situation", t, t.bestAt(0, 2), 2);
        c.refused("39: below", t, t.bestAt(0, -1), 2);
        c.refused("39: no player", t, t.bestAt(2, 0), 2);
        c.fine("38: nothing changed", t, t.lost(-1), 1);
        c.fine("38: the other", t, t.best(1), 1);
        c.refused("38: no player", t, t.best(2), 2);
        c.fine("40: of several the first", t, t.bettered(), 0);
        HatNet m = Check.game("players 3;hats 0 4;hats 1 2;link 1 2;guess 1 same 2;");
        c.fine("40: bettered", m, m.bettered(), 2);
        c.fine("38: one that helps little", m, m.best(0), 3);
        // 3 that see nobody: 2 * 3 * 1 ways.
        HatNet w = Check.game("players 2;hats 1 3;");
        c.fine("41: ways", w, w.ways(0), 6);
        c.fine("41: none is WON", w, w.ways(1), 0);
        c.fine("41: the fewest", w, w.ways(2), 2);
        c.refused("41: what", w, w.ways(3), 1);
        c.refused("41: below", w, w.ways(-1), 1);
        HatNet two = Check.game(TWO);
        c.fine("41: sixteen", two, two.ways(0), 16);
        c.fine("41: two are WON", two, two.ways(1), 2);
        c.fine("41: the fewest", two, two.ways(2), 0);
        // 2 to the 14th.
        HatNet e = Check.game("players 6;link 0 1;link 0 2;link 3 4;sees 5 0;");
        c.fine("41: many", e, e.ways(0), 16384);
        // 14 entries of TABLES, as many as there can be.
        c.fine("41: none is LOST in", e, e.ways(1), wonWithTwoLinks());
        c.fine("41: the fewest", e, e.ways(2), 0);
        HatNet f = Check.game("players 6;hats 0 4;hats 1 4;hats 2 4;hats 3 4;hats 4 4;hats 5 4;");
        c.fine("41: as many colourings", f, f.ways(0), 4096);
        c.fine("41: not one is RIGHT more", f, f.ways(2), 729);
        HatNet h = Check.game(THREE);
        c.refused("41: too many", h, h.ways(0), 3);
        HatNet g = Check.game("players 5;link 0 1;link 1 2;link 2 3;sees 3 0;");
        c.refused("41: 32768", g, g.ways(1), 3);
        c.refused("41: 1 ahead of 3", g, g.ways(9), 1);
        HatNet o = Check.game("players 2;hats 0 1;hats 1 4;link 0 1;");
        c.fine("41: one COLOUR, one way", o, o.ways(0), 4);
        c.fine("41: it is always RIGHT", o, o.ways(1), 4);
        c.fine("41: none is LOST", o, o.ways(2), 0);
        HatNet q = Check.game("players 4;hats 0 1;hats 1 4;hats 2 4;hats 3 4;sees 0 1;sees 0 2;sees 0 3;");
        c.fine("41: it sees 64 SITUATIONS", q, q.ways(0), 64);
        c.fine("41: and is always RIGHT", q, q.ways(1), 64);
        HatNet p = Check.game("players 6;hats 0 1;hats 1 1;hats 2 1;hats 3 1;hats 4 1;hats 5 4;"
            + "link 0 5;link 1 5;link 2 5;link 3 5;link 4 5;");
        c.fine("41: ones with four", p, p.ways(1), 4);
    }

    /** By NaiveHatNet, of the same game. */
    private int wonWithTwoLinks() {
        NaiveHatNet y = new NaiveHatNet();
        String text = "players 6;link 0 1;link 0 2;link 3 4;sees 5 0;    ";
        for (int at = 0; at < text.length(); at += 20) {
            y.feed(Check.four(text, at), Check.four(text, at + 4), Check.four(text, at + 8),
                Check.four(text, at + 12), Check.four(text, at + 16));
        }
        y.load(text.length());
        return y.ways(1);
    }

    /** Promise 42. */
    private void search() {
        HatNet x = Check.game(RING_OF_THREES);
        x.print();
        String before = Check.out(x);
        boolean later = false;
        for (int from = 0; from < 12; from++) {
            later |= searchFrom(x, from, 1 + from % 10) > from;
        }
        c.due("42: not always the first seed", later ? 1 : 0, 1);
        x.print();
        c.due("42: nothing changed", Check.out(x).equals(before) ? 1 : 0, 1);
        c.fine("42: nothing changed", x, x.lost(-1), 16);
        c.fine("42: no act", x, x.many(4), 0);
        searchFrom(x, 999999999, 1);
        c.refused("42: seed", x, x.search(-1, 1, 0), 1);
        c.refused("42: seed above", x, x.search(1000000000, 1, 0), 1);
        c.refused("42: no times", x, x.search(0, 0, 0), 1);
        c.refused("42: eleven times", x, x.search(0, 11, 0), 1);
        c.refused("42: what", x, x.search(0, 1, 2), 1);
        c.refused("42: what below", x, x.search(0, 1, -1), 1);
        HatNet n = new HatNet();
        c.refused("42: no PLAYERS", n, n.search(0, 1, 0), 5);
        c.refused("42: 1 ahead of 5", n, n.search(0, 11, 0), 1);
    }

    /** By shuffle() and better(), which are tested by themselves: the first seed with the fewest. */
    private int searchFrom(HatNet x, int from, int times) {
        HatNet y = Check.game(RING_OF_THREES);
        int fewest = MAX;
        int seed = -1;
        for (int s = from; s < from + times; s++) {
            y.shuffle(s);
            y.better();
            if (y.lost(-1) < fewest) {
                fewest = y.lost(-1);
                seed = s;
            }
        }
        c.fine("42: fewest from " + from, x, x.search(from, times, 0), fewest);
        c.fine("42: first seed from " + from, x, x.search(from, times, 1), seed);
        return seed;
    }

    /** Promises 43, 44. */
    private void renumbered() {
        HatNet f = Check.game(FOUR);
        c.fine("43: all", f, f.renumber(0), 24);
        c.fine("43: all keep", f, f.renumber(1), 24);
        c.fine("44: alike", f, f.alike(1, 3), 1);
        f.set(0, 7, 1);
        c.fine("43: those that leave 0", f, f.renumber(1), 6);
        c.fine("44: not 0", f, f.alike(0, 1), 0);
        c.fine("44: two others", f, f.alike(2, 1), 1);
        c.refused("43: what", f, f.renumber(2), 1);
        c.refused("43: below", f, f.renumber(-1), 1);
        c.refused("44: itself", f, f.alike(1, 1), 4);
        c.refused("44: none such", f, f.alike(1, 4), 2);
        HatNet w = Check.game(WHEEL);
        c.fine("43: a square", w, w.renumber(0), 8);
        c.fine("44: across", w, w.alike(0, 2), 1);
        c.fine("44: beside", w, w.alike(0, 1), 0);
        HatNet r = Check.game("players 3;sees 0 1;sees 1 2;sees 2 0;guess 0 same 1;guess 1 same 2;guess 2 same 0;");
        c.fine("43: round one way", r, r.renumber(0), 3);
        c.fine("43: they keep", r, r.renumber(1), 3);
        HatNet h = Check.game("players 3;hats 1 3;");
        c.fine("43: as many COLOURS", h, h.renumber(0), 2);
        c.fine("44: other COLOURS", h, h.alike(0, 1), 0);
        // By changing places 0 guesses what 1 did, shown the other's COLOUR.
        HatNet t = Check.game("players 3;link 0 1;link 0 2;link 1 2;guess 0 same 1;guess 1 same 0;guess 2 same 0;");
        c.fine("43: six", t, t.renumber(0), 6);
        c.fine("43: itself alone", t, t.renumber(1), 1);
        HatNet u = Check.game("players 2;link 0 1;guess 0 same 1;guess 1 same 0;");
        c.fine("44: guesses carried along", u, u.alike(0, 1), 1);
    }

    /** Promises 45 to 48. */
    private void networks() {
        HatNet x = Check.game("players 4;sees 0 1;sees 1 2;sees 2 0;sees 0 2;link 1 3;");
        c.fine("45: itself", x, x.far(2, 2), 0);
        c.fine("45: one", x, x.far(0, 2), 1);
        c.fine("45: two", x, x.far(0, 3), 2);
        c.fine("45: three", x, x.far(2, 3), 3);
        HatNet m = Check.game(MIXED);
        c.fine("45: seen", m, m.far(0, 1), 1);
        c.refused("45: no way back", m, m.far(1, 0), 5);
        c.refused("45: none such", m, m.far(0, 3), 2);
        c.refused("45: below", m, m.far(-1, 0), 2);
        shape("players 1;", 1);
        shape("players 2;", 0);
        shape("players 2;link 0 1;", 1);
        shape("players 2;sees 0 1;", 0);
        shape(LINE, 1);
        shape("players 4;link 0 1;link 0 2;link 0 3;", 1);
        shape("players 4;link 0 1;link 1 2;link 2 0;", 0);
        shape("players 3;link 0 1;link 1 2;link 2 0;", 2);
        shape("players 3;sees 0 1;sees 1 2;sees 2 0;", 0);
        shape("players 5;link 0 1;link 1 2;link 2 3;link 3 4;link 4 0;", 2);
        shape("players 6;link 0 1;link 1 2;link 2 0;link 3 4;link 4 5;link 5 3;", 0);
        shape(WHEEL, 3);
        shape(FOUR, 4);
        shape("players 4;link 0 1;link 1 2;link 2 3;link 3 0;sees 0 2;", 0);
        // Two rings that share 0, alone and around a hub; a wheel where one sees one more.
        shape("players 5;link 0 1;link 0 2;link 1 2;link 0 3;link 0 4;link 3 4;", 0);
        shape("players 6;link 0 1;link 0 2;link 1 2;link 0 3;link 0 4;link 3 4;link 5 0;link 5 1;link 5 2;"
            + "link 5 3;link 5 4;", 0);
        shape(WHEEL + "sees 0 2;", 0);
        shape("players 6;link 0 1;link 1 2;link 2 3;link 3 4;link 4 0;link 5 0;link 5 1;link 5 2;link 5 3;"
            + "link 5 4;", 3);
        HatNet d = Check.game(WHEEL + "sees 0 2;");
        c.refused("47: one sees one more", d, d.hub(), 5);
        HatNet w = Check.game(WHEEL);
        c.fine("47: hub", w, w.hub(), 4);
        HatNet f = Check.game(FOUR);
        c.fine("47: of several the first", f, f.hub(), 0);
        HatNet t = Check.game(THREE);
        c.refused("47: a ring", t, t.hub(), 5);
        w.see(0, 1, false);
        c.refused("47: not mutual", w, w.hub(), 5);
        HatNet l = Check.game("players 5;link 0 2;link 2 4;sees 4 3;sees 1 0;");
        c.fine("48: part", l, l.part(4), 21);
        c.fine("48: alone", l, l.part(3), 8);
        c.fine("48: along LINKS alone", l, l.part(1), 2);
        c.refused("48: none such", l, l.part(5), 2);
    }

    private void shape(String text, int kind) {
        HatNet x = Check.game(text);
        c.fine("46: " + text, x, x.shape(), kind);
    }

    /** Promise 49. */
    private void set() {
        HatNet x = Check.game(TWO);
        c.fine("49: set", x, x.set(1, 1, 1), 1);
        c.fine("49: it guesses so", x, x.guess(1, 1), 1);
        c.fine("49: lost is", x, x.lost(0), 2);
        c.refused("49: it is so", x, x.set(1, 1, 1), 4);
        c.refused("49: no colour", x, x.set(1, 1, 2), 2);
        c.refused("49: no situation", x, x.set(1, 2, 1), 2);
        c.refused("49: no player", x, x.set(2, 0, 0), 2);
        c.refused("49: below", x, x.set(0, 0, -1), 2);
        c.fine("49: one act", x, x.many(4), 1);
    }

    /** Promises 50, 51. */
    private void takeAndBetter() {
        HatNet x = Check.game("players 2;link 0 1;");
        c.fine("50: best is", x, x.best(1), 1);
        c.refused("50: in none", x, x.take(1), 4);
        c.fine("50: no act", x, x.many(4), 0);
        x.set(0, 0, 1);
        c.fine("50: take", x, x.take(1), 1);
        c.fine("50: guesses", x, x.guess(1, 1), 1);
        c.fine("50: guesses", x, x.guess(1, 0), 0);
        HatNet s = Check.game("players 2;link 0 1;guess 0 sum 1;guess 1 fixed 1;");
        // 0 is right in 0 1 and 1 0: 1 takes 0, shown 0, and 1, shown 1.
        c.fine("50: one other", s, s.take(1), 1);
        c.fine("50: won", s, s.lost(-1), 0);
        c.refused("50: no player", s, s.take(2), 2);
        c.fine("50: an act", s, s.many(4), 1);
        HatNet t = Check.game("players 2;link 0 1;guess 0 fixed 1;guess 1 fixed 1;");
        c.fine("50: of several the least", t, t.take(0), 2);
        c.fine("50: guesses", t, t.often(0, 0), 2);
        c.fine("50: no fewer", t, t.lost(-1), 1);
        c.refused("51: won already", s, s.better(), 4);
        HatNet b = Check.game("players 3;hats 2 3;link 0 1;guess 0 same 1;");
        c.fine("51: one helps", b, b.lost(-1), 2);
        c.fine("51: better", b, b.better(), 1);
        c.fine("51: won", b, b.lost(-1), 0);
        c.fine("51: one act", b, b.many(4), 1);
        betterInTurn(THREE, 2);
        // With these some take their BEST twice, and some only after a while in which none did.
        betterInTurn(THREE, 5);
        betterInTurn(RING_OF_THREES, 1);
        betterInTurn(RING_OF_THREES, 25);
    }

    /** By best() and take(), which are tested by themselves. */
    private void betterInTurn(String text, int seed) {
        HatNet r = Check.game(text);
        r.shuffle(seed);
        HatNet q = Check.game(text);
        q.shuffle(seed);
        int took = 0;
        boolean again = true;
        while (again) {
            again = false;
            for (int p = 0; p < q.many(0); p++) {
                if (q.best(p) < q.lost(-1)) {
                    q.take(p);
                    took++;
                    again = true;
                }
            }
        }
        c.fine("51: in turn", r, r.better(), took);
        int lost = q.lost(-1);
        c.fine("51: as far", r, r.lost(-1), lost);
        for (int p = 0; p < q.many(0); p++) {
            for (int i = 0; i < q.player(p, 3); i++) {
                c.fine("51: guesses", r, r.guess(p, i), q.guess(p, i));
            }
        }
        c.refused("51: no more", r, r.better(), 4);
        c.fine("51: back", r, r.undo(), 1);
    }

    /** Promise 52. */
    private void build() {
        HatNet x = Check.game("players 3;hats 0 2;hats 1 3;hats 2 4;link 0 1;link 0 2;link 1 2;"
            + "guess 0 fixed 1;guess 1 fixed 1;guess 2 fixed 1;");
        c.fine("52: all three win", x, x.build(7), 0);
        // m is 12, the STEPS are 6, 4, 3: 0 has 0 to 5, 1 has 6 to 9, 2 has 10, 11, 0.
        c.fine("52: 0 sees 0 0", x, x.guess(0, 0), 0);
        c.fine("52: 0 sees 2 1, adding 11", x, x.guess(0, 9), 1);
        c.fine("52: 1 sees 0 0, needs 8", x, x.guess(1, 0), 2);
        c.fine("52: 1 sees 1 1, adding 9", x, x.guess(1, 5), 0);
        c.fine("52: 2 sees 0 0, needs 0", x, x.guess(2, 0), 0);
        c.fine("52: 2 sees 1 0, adding 6, needs 12", x, x.guess(2, 3), 2);
        c.refused("52: they have them", x, x.build(7), 4);
        c.fine("52: one alone", x, x.build(2), x.lost(-1));
        c.fine("52: guesses 0", x, x.often(1, 0), 8);
        c.refused("52: empty", x, x.build(0), 2);
        c.refused("52: others", x, x.build(8), 2);
        c.fine("52: two acts", x, x.many(4), 2);
        HatNet l = Check.game(LINE);
        c.refused("52: no CLIQUE", l, l.build(5), 7);
        c.refused("52: nor all", l, l.build(7), 7);
        c.fine("52: whatever else they see", l, l.build(6), 0);
        c.fine("52: 1 hangs on 2 alone", l, l.heeded(1), 4);
        HatNet s = Check.game("players 2;sees 0 1;");
        c.refused("52: one sees the other", s, s.build(3), 7);
        HatNet d = Check.game("players 4;hats 0 3;hats 1 2;hats 2 3;link 0 1;link 1 2;link 0 2;");
        c.fine("52: by numbers, modulo", d, d.build(7), 0);
        // m is 6, the STEPS are 2, 3, 2: 0 has 0 1, 1 has 2 3 4, 2 has 5 0.
        c.fine("52: wraps", d, d.guess(2, 1 * 2 + 1), 0);
        c.fine("52: wraps", d, d.guess(2, 2 * 2 + 0), 1);
    }

    /** Promise 53. */
    private void rename() {
        HatNet x = Check.game("players 3;hats 0 3;link 0 1;sees 2 0;guess 0 table 0 2;guess 1 table 0 1 1;"
            + "guess 2 table 0 1 0;");
        // Of 0 one entry, of 1 none (COLOURS 1 and 2 are one to it), of 2 two.
        c.fine("53: rename", x, x.rename(0, 1, 2), 3);
        c.fine("53: its own", x, x.guess(0, 1), 1);
        c.fine("53: seen", x, x.guess(2, 1), 0);
        c.fine("53: seen", x, x.guess(2, 2), 1);
        c.fine("53: who does not see it", x, x.rename(2, 0, 1), 3);
        c.refused("53: itself", x, x.rename(0, 1, 1), 4);
        c.refused("53: no colour", x, x.rename(1, 1, 2), 2);
        c.refused("53: no colour", x, x.rename(1, 2, 1), 2);
        c.refused("53: 2 ahead of 4", x, x.rename(1, 2, 2), 2);
        c.refused("53: no player", x, x.rename(3, 0, 1), 2);
        c.fine("53: acts", x, x.many(4), 2);
        HatNet n = Check.game("players 2;hats 0 3;link 0 1;");
        c.fine("53: no entry is another", n, n.rename(0, 1, 2), 0);
        c.fine("53: an act all the same", n, n.many(4), 1);
        HatNet l = Check.game("players 3;hats 0 3;guess 0 fixed 1;guess 1 fixed 1;");
        c.fine("53: fixed", l, l.rename(0, 0, 1), 1);
        c.fine("53: as many are LOST", l, l.lost(-1), 2);
        c.fine("53: others", l, l.lost(0), 5);
    }

    /** Promise 54. */
    private void see() {
        HatNet x = Check.game("players 3;hats 0 2;hats 1 3;hats 2 2;sees 0 2;guess 0 table 0 1;guess 1 fixed 2;");
        c.fine("54: sees more", x, x.see(0, 1, true), 6);
        int[] more = {0, 1, 0, 1, 0, 1};
        for (int s = 0; s < 6; s++) {
            c.fine("54: as it did " + s, x, x.guess(0, s), more[s]);
        }
        c.refused("54: it is so", x, x.see(0, 1, true), 4);
        x.set(0, 0, 1);
        x.set(0, 2, 1);
        c.fine("54: no more", x, x.see(0, 2, false), 3);
        int[] left = {1, 1, 0};
        for (int s = 0; s < 3; s++) {
            c.fine("54: with COLOUR 0 " + s, x, x.guess(0, s), left[s]);
        }
        c.refused("54: it is so", x, x.see(0, 2, false), 4);
        c.refused("54: itself", x, x.see(0, 0, true), 4);
        c.refused("54: itself", x, x.see(0, 0, false), 4);
        c.refused("54: none such", x, x.see(0, 3, true), 2);
        c.refused("54: below", x, x.see(-1, 0, true), 2);
        c.fine("54: colourings follow", x, x.situation(0, 3), 1);
        c.fine("54: seen behind", x, x.see(0, 2, true), 6);
        c.fine("54: as it did", x, x.guess(0, 5), 0);
        c.fine("54: as it did", x, x.guess(0, 3), 1);
        c.fine("54: blinded is", x, x.blinded(0, 1), 2);
        c.fine("54: the first of two no more", x, x.see(0, 1, false), 2);
        c.fine("54: so are LOST", x, x.lost(-1), 2);
    }

    /** Promise 55. */
    private void shuffle() {
        HatNet x = Check.game("players 2;hats 0 3;hats 1 4;link 0 1;");
        c.fine("55: shuffle", x, x.shuffle(12345), x.lost(-1));
        long seed = 12345;
        for (int p = 0; p < 2; p++) {
            int colours = p == 0 ? 3 : 4;
            for (int s = 0; s < (p == 0 ? 4 : 3); s++) {
                seed = seed * 6364136223846793005L + 1442695040888963407L;
                c.fine("55: drawn " + p + " " + s, x, x.guess(p, s), (int) ((seed >>> 33) % colours));
            }
        }
        HatNet o = Check.game("players 2;");
        c.fine("55: seed 0", o, o.shuffle(0), 1);
        // 1442695040888963407 from bit 33 on is 167953112: an even one.
        c.fine("55: the first draw", o, o.guess(0, 0), (int) (1442695040888963407L >>> 33) % 2);
        c.fine("55: greatest seed", x, x.shuffle(999999999), x.lost(-1));
        c.fine("55: acts", x, x.many(4), 2);
        c.fine("55: the same again", x, x.shuffle(999999999), x.lost(-1));
        c.fine("55: an act, too", x, x.many(4), 3);
        c.refused("55: below", x, x.shuffle(-1), 1);
        c.refused("55: above", x, x.shuffle(1000000000), 1);
        HatNet n = new HatNet();
        c.refused("55: no PLAYERS", n, n.shuffle(0), 5);
        c.refused("55: 1 ahead of 5", n, n.shuffle(-1), 1);
    }

    /** Promise 56. */
    private void undo() {
        HatNet x = Check.game(FOUR);
        c.refused("56: none yet", x, x.undo(), 5);
        for (int s = 0; s < 8; s++) {
            x.set(0, s, 1);
        }
        c.fine("56: six are kept", x, x.many(4), 6);
        for (int left = 5; left >= 0; left--) {
            c.fine("56: undo", x, x.undo(), left);
        }
        c.refused("56: no more", x, x.undo(), 5);
        c.fine("56: two stay", x, x.often(0, 1), 2);
        c.fine("56: the first ones", x, x.guess(0, 1), 1);
        c.fine("56: not the third", x, x.guess(0, 2), 0);
        HatNet y = Check.game(THREE);
        y.print();
        String first = Check.out(y);
        y.set(0, 0, 1);
        y.take(0);
        y.shuffle(5);
        y.better();
        y.rename(1, 0, 2);
        y.see(1, 2, false);
        c.fine("56: six acts", y, y.many(4), 6);
        for (int left = 5; left >= 0; left--) {
            c.fine("56: each kind", y, y.undo(), left);
        }
        y.print();
        c.due("56: all as it was", Check.out(y).equals(first) ? 1 : 0, 1);
        c.fine("56: none is LOST again", y, y.lost(-1), 0);
        y.build(3);
        y.build(4);
        c.fine("56: build, undone", y, y.undo(), 1);
        c.fine("56: a new act", y, y.set(2, 8, 0), y.lost(-1));
        c.fine("56: behind it", y, y.many(4), 2);
        y.undo();
        y.undo();
        c.fine("56: situations again", y, y.situation(1, 26), 8);
        y.see(1, 2, false);
        c.refused("56: refused ones are no acts", y, y.see(1, 2, false), 4);
        c.fine("56: one", y, y.many(4), 1);
        y.undo();
        c.fine("56: sight again", y, y.player(1, 1), 5);
    }

    /** Promises 57, 58. */
    private void printed() {
        HatNet x = Check.game(MIXED);
        String due = "players 3;hats 0 2;hats 1 3;hats 2 1;sees 0 1;"
            + "guess 0 table 0 1 1;guess 1 table 2;guess 2 table 0;";
        c.refused("58: none yet", x, x.out(0), 5);
        c.fine("57: print", x, x.print(), due.length());
        c.due("57: text", Check.out(x).equals(due) ? 1 : 0, 1);
        c.fine("58: first", x, x.out(0), 'p');
        c.fine("58: last", x, x.out(due.length() - 1), ';');
        c.refused("58: not so many", x, x.out(due.length()), 5);
        c.refused("58: greatest", x, x.out(MAX), 5);
        c.refused("58: below", x, x.out(-1), 1);
        c.refused("58: least", x, x.out(MIN), 1);
        c.fine("57: load tells the same", x, Check.load(x, due), 3);
        c.fine("58: it stays", x, x.out(0), 'p');
        x.print();
        c.due("57: text again", Check.out(x).equals(due) ? 1 : 0, 1);
        HatNet w = Check.game(WHEEL);
        c.fine("57: wheel", w, w.print(), 10 + 5 * 9 + 16 * 9 + 5 * 14 + 4 * 16 + 32);
        String wheel = Check.out(w);
        c.due("57: sees by the first, then the other", wheel.indexOf("sees 0 1;sees 0 3;sees 0 4;sees 1 0;") > 0 ? 1 : 0, 1);
        HatNet g = Check.game("players 4;hats 0 4;hats 1 4;hats 2 4;sees 3 0;sees 3 1;sees 3 2;sees 0 1;sees 0 2;"
            + "sees 0 3;sees 1 0;sees 1 2;");
        g.print();
        Check.load(g, LINE);
        c.fine("57: a short one", g, g.print(), 10 + 3 * 9 + 4 * 9 + 3 * 14 + 16);
        String line = Check.out(g);
        Check.load(g, THREE.replace("hats 0 3", "hats 0 4").replace("hats 1 3", "hats 1 4")
            .replace("players 3;", "players 6;link 0 3;link 1 3;hats 3 4;link 0 4;link 0 5;"));
        c.refused("57: more than 600", g, g.print(), 3);
        c.due("58: OUT stays", Check.out(g).equals(line) ? 1 : 0, 1);
        c.fine("57: nobody", g, g.load(0), 0);
        c.fine("57: 0 without PLAYERS", g, g.print(), 0);
        c.refused("58: nothing", g, g.out(0), 5);
        atTheBound();
    }

    /** A game that takes just 600 bytes, one that takes 601, and one that comes below by an act. */
    private void atTheBound() {
        HatNet x = Check.game("players 5;hats 0 4;hats 1 3;hats 3 2;hats 4 3;sees 0 1;link 0 2;link 0 3;"
            + "link 1 2;sees 2 3;link 2 4;link 3 4;sees 3 1;sees 4 0;sees 4 1;");
        c.fine("57: 600", x, x.print(), 600);
        c.fine("58: the 600th", x, x.out(599), ';');
        c.refused("58: the 601st", x, x.out(600), 5);
        HatNet y = Check.game("players 5;hats 0 4;hats 2 4;hats 3 4;hats 4 3;link 0 3;sees 1 3;link 1 4;"
            + "sees 3 2;link 3 4;sees 4 0;sees 4 2;");
        c.refused("57: 601", y, y.print(), 3);
        c.refused("58: there is none yet", y, y.out(0), 5);
        c.fine("57: sees one less", y, y.see(1, 4, false), 4);
        c.fine("57: fewer by 9 and 2 * 8", y, y.print(), 576);
    }

    /** All calls of an object without PLAYERS. */
    private void nobody() {
        HatNet x = new HatNet();
        c.fine("17: nobody", x, x.exact(0), 0);
        c.fine("29: nobody", x, x.atLeast(0), 0);
        c.fine("16: nobody", x, x.lost(-1), 0);
        c.refused("16: nobody", x, x.lost(0), 5);
        c.fine("23: nobody", x, x.twice(), 0);
        c.fine("34: nobody", x, x.least(), 0);
        c.fine("30: nobody", x, x.acyclic(), 1);
        c.fine("37: nobody", x, x.sure(), 0);
        c.fine("41: nobody", x, x.ways(0), 1);
        c.fine("41: nobody", x, x.ways(1), 1);
        c.fine("41: nobody", x, x.ways(2), 0);
        c.fine("43: nobody", x, x.renumber(0), 1);
        c.fine("43: nobody", x, x.renumber(1), 1);
        c.fine("57: nobody", x, x.print(), 0);
        c.refused("22: nobody", x, x.crowd(0), 5);
        c.refused("22: nobody, 1 ahead", x, x.crowd(3), 1);
        c.refused("25: nobody", x, x.weakest(false), 5);
        c.refused("26: nobody", x, x.needed(), 5);
        c.refused("31: nobody", x, x.always(), 5);
        c.refused("32: nobody", x, x.blind(), 5);
        c.refused("35: nobody", x, x.clique(), 5);
        c.refused("36: nobody", x, x.strongest(), 5);
        c.refused("40: nobody", x, x.bettered(), 5);
        c.refused("46: nobody", x, x.shape(), 5);
        c.refused("47: nobody", x, x.hub(), 5);
        c.refused("51: nobody", x, x.better(), 4);
        c.refused("15: nobody", x, x.right(0), 2);
        c.refused("20: nobody", x, x.without(1), 2);
        c.refused("33: nobody", x, x.share(1, 0), 2);
        c.refused("52: nobody", x, x.build(1), 2);
        c.refused("45: nobody", x, x.far(0, 0), 2);
        c.refused("54: nobody", x, x.see(0, 1, true), 2);
    }

    /** Six PLAYERS of four COLOURS who all see each other: nothing is larger. */
    private void largest() {
        StringBuilder b = new StringBuilder("players 6;");
        for (int p = 0; p < 6; p++) {
            b.append("hats ").append(p).append(" 4;");
        }
        for (int p = 0; p < 6; p++) {
            for (int q = p + 1; q < 6; q++) {
                b.append("link ").append(p).append(' ').append(q).append(';');
            }
        }
        HatNet x = Check.game(b + "guess 5 sum 99;");
        c.fine("6: colourings", x, x.many(1), 4096);
        c.fine("7: situations", x, x.player(3, 3), 1024);
        c.fine("8: the last", x, x.guess(5, 1023), 0);
        c.fine("9: the last", x, x.situation(2, 4095), 1023);
        c.fine("11: a quarter", x, x.often(5, 3), 256);
        c.fine("14: fooled", x, x.fooled(5, 0), 4096);
        c.fine("17: five at 0, the last at 3", x, x.exact(6), 1);
        c.fine("20: 3 of 4, five times, and 4", x, x.without(31), 972);
        c.fine("43: all", x, x.renumber(0), 720);
        c.fine("43: all but 5", x, x.renumber(1), 120);
        c.fine("34: least", x, x.least(), 0);
        c.fine("52: four are enough", x, x.build(15), 0);
        c.fine("43: the other two stay", x, x.renumber(1), 1);
        c.fine("26: needed", x, x.needed(), 15);
        c.fine("52: all six", x, x.build(63), 0);
        // The last two have the numbers of the first two, modulo 4.
        c.fine("43: those in the same places", x, x.renumber(1), 4);
        c.fine("44: 0 and 4", x, x.alike(0, 4), 1);
        c.fine("44: 0 and 5", x, x.alike(0, 5), 0);
        c.fine("53: none is hung on so", x, x.rename(0, 0, 3), x.player(0, 3) / 2 + 5 * 512);
        c.fine("42: at most", x, Math.min(x.search(1, 10, 0), 100), x.search(1, 10, 0));
        for (int left = 2; left >= 0; left--) {
            c.fine("56: undo", x, x.undo(), left);
        }
        c.fine("43: as ahead of all", x, x.renumber(1), 120);
        c.refused("57: too many bytes", x, x.print(), 3);
        c.refused("41: too many", x, x.ways(2), 3);
    }
}
