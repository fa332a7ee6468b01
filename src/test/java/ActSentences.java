/** Promises 49 to 58: ACTS, UNDO, and OUT. */
final class ActSentences extends Sentences {
    private static final String WON = "players 2;link 0 1;guess 0 same 1;guess 1 next 0;";
    /** Of 2, 3 and 4 COLOURS; 0 sees 1 and 2, 1 sees 0, 2 sees nobody. */
    private static final String GAME = "players 3;hats 1 3;hats 2 4;link 0 1;sees 0 2;"
        + "guess 0 table 0 0 1 1 0 1 0 1 1 0 0 1;guess 1 table 2 0;guess 2 fixed 3;";

    // ---- set

    @Sentence(of = "Promise 49", says = "A PLAYER guesses another COLOUR in a SITUATION:")
    void setsOneEntry() {
        game(GAME);
        x.set(0, 11, 0);
        same(table(0), "001101011000");
        x.set(0, 0, 1);
        same(table(0), "101101011000");
        x.set(2, 0, 1);
        same(table(1) + table(2), "201");
    }

    @Sentence(of = "Promise 49", says = "how many COLOURINGS are LOST then")
    void lostWhenSet() {
        game(WON);
        fine(x.set(0, 0, 1), 1);
        fine(x.set(0, 1, 0), 2);
        fine(x.set(1, 0, 0), 1);
        fine(x.set(1, 1, 1), 0);
        fine(x.lost(NONE), 0);
    }

    @Sentence(of = "Promise 49", says = "(2;")
    void setsNone() {
        game(GAME);
        bounds(NO_SUCH, 0, 2, p -> x.set(p, 0, 0));
        bounds(NO_SUCH, 0, 11, s -> x.set(0, s, 0));
        bounds(NO_SUCH, 0, 0, s -> x.set(2, s, 0));
        bounds(NO_SUCH, 0, 1, c -> x.set(0, 0, c));
        bounds(NO_SUCH, 0, 3, c -> x.set(2, 0, c));
        x = new HatNet();
        refused(x.set(0, 0, 0), NO_SUCH);
    }

    @Sentence(of = "Promise 49", says = "; 4).")
    void setsWhatIsSo() {
        game(GAME);
        refused(x.set(0, 2, 1), SO_ALREADY);
        refused(x.set(2, 0, 3), SO_ALREADY);
        fine(x.many(4), 0);
        x.set(0, 2, 0);
        refused(x.set(0, 2, 0), SO_ALREADY);
        fine(x.many(4), 1);
    }

    // ---- take, better

    @Sentence(of = "Promise 50", says = "A PLAYER takes its BEST TABLE:")
    void takesItsBestTable() {
        game("players 2;link 0 1;guess 0 fixed 1;guess 1 next 0;");
        x.take(0);
        same(table(0), "01");
        // Though no fewer are LOST.
        game("players 2;link 0 1;guess 0 fixed 1;guess 1 fixed 1;");
        x.take(1);
        same(table(1), "00");
        fine(x.lost(NONE), 1);
    }

    @Sentence(of = "Promise 50", says = "in how many SITUATIONS it guesses otherwise than it did")
    void howManyAreTakenOtherwise() {
        game("players 2;link 0 1;guess 0 fixed 1;guess 1 next 0;");
        fine(x.take(0), 1);
        game("players 2;hats 0 4;hats 1 3;link 0 1;guess 0 fixed 3;guess 1 fixed 2;");
        fine(x.take(0), 3);
        fine(x.take(1), 4);
        game("players 1;hats 0 4;guess 0 fixed 3;");
        fine(x.take(0), 1);
    }

    @Sentence(of = "Promise 50", says = "(2;")
    void nobodyTakes() {
        game(GAME);
        bounds(NO_SUCH, 0, 2, x::take);
        x = new HatNet();
        refused(x.take(0), NO_SUCH);
    }

    @Sentence(of = "Promise 50", says = "4: in none).")
    void takesWhatItHas() {
        game(WON);
        refused(x.take(0), SO_ALREADY);
        refused(x.take(1), SO_ALREADY);
        fine(x.many(4), 0);
        game("players 2;link 0 1;guess 0 fixed 1;");
        fine(x.take(0), 2);
        refused(x.take(0), SO_ALREADY);
        fine(x.many(4), 1);
        game("players 1;hats 0 1;");
        refused(x.take(0), SO_ALREADY);
    }

    @Sentence(of = "Promise 51", says = "PLAYERS take their BEST in turn, from 0 on,")
    void betterFromTheFirstOn() {
        // 0 or 1 could win; 4 or 5 could.
        game("players 2;link 0 1;guess 0 same 1;guess 1 same 0;");
        fine(x.better(), 1);
        same(table(0) + table(1), "1001");
        game("players 6;link 4 5;guess 4 same 5;guess 5 same 4;");
        fine(x.better(), 1);
        same(table(4) + table(5), "1001");
    }

    private static final String RING = "players 4;hats 0 3;hats 1 3;hats 2 3;hats 3 3;link 0 1;link 1 2;link 2 3;"
        + "link 3 0;";

    /** By best() and take(), turn by turn: 1 for each PLAYER who does better, 0 for each who does not. */
    private String turns(int seed) {
        game(RING);
        x.shuffle(seed);
        StringBuilder took = new StringBuilder();
        for (int turn = 0; turn < 36; turn++) {
            boolean does = x.best(turn % 4) < x.lost(NONE);
            took.append(does ? '1' : '0');
            if (does) {
                x.take(turn % 4);
            }
        }
        return took.toString();
    }

    private void betteredInTurn(int seed) {
        int all = turns(seed).replace("0", "").length();
        String due = table(0) + table(1) + table(2) + table(3);
        game(RING);
        x.shuffle(seed);
        fine(x.better(), all);
        same(table(0) + table(1) + table(2) + table(3), due);
        refused(x.better(), SO_ALREADY);
    }

    @Sentence(of = "Promise 51", says = "round and round,")
    void betterRoundAndRound() {
        // With some of these they go round a third time.
        int again = 0;
        for (int seed = 20; seed < 34; seed++) {
            betteredInTurn(seed);
            again += turns(seed).lastIndexOf('1') >= 8 ? 1 : 0;
        }
        same(again > 0 ? 1 : 0, 1);
    }

    @Sentence(of = "Promise 51", says = "each only if fewer are LOST then,")
    void betterOnlyIfFewerAreLost() {
        // The BEST of 0 is another TABLE, but loses as many; then 2 does.
        game("players 3;link 1 2;guess 0 fixed 1;guess 1 fixed 1;guess 2 next 1;");
        fine(x.lost(NONE), 1);
        fine(x.bestAt(0, 0), 0);
        fine(x.best(0), 1);
        fine(x.better(), 1);
        same(table(0), "1");
        fine(x.lost(NONE), 0);
    }

    @Sentence(of = "Promise 51", says = "till in a whole round none does:")
    void betterTillNoneDoes() {
        // 5 alone does, when all others have not.
        game("players 6;link 4 5;guess 4 same 5;guess 5 fixed 1;");
        fine(x.lost(NONE), 1);
        fine(x.better(), 1);
        same(table(4) + table(5), "0110");
        // With some of these two in turn don't, and then one does.
        int late = 0;
        for (int seed = 0; seed < 12; seed++) {
            betteredInTurn(seed);
            late += turns(seed).contains("001") ? 1 : 0;
        }
        same(late > 0 ? 1 : 0, 1);
    }

    @Sentence(of = "Promise 51", says = "how many did")
    void howManyDidBetter() {
        game("players 2;link 0 1;guess 0 same 1;guess 1 same 0;");
        fine(x.better(), 1);
        // With some of these one does twice, and is counted twice.
        boolean twice = false;
        for (int seed = 0; seed < 12; seed++) {
            String took = turns(seed);
            for (int turn = 4; turn < took.length(); turn++) {
                twice |= took.charAt(turn) == '1' && took.charAt(turn - 4) == '1';
            }
            game(RING);
            x.shuffle(seed);
            fine(x.better(), took.replace("0", "").length());
        }
        same(twice ? 1 : 0, 1);
    }

    @Sentence(of = "Promise 51", says = "(4: none).")
    void noneDoesBetter() {
        refused(x.better(), SO_ALREADY);
        game(WON);
        refused(x.better(), SO_ALREADY);
        game("players 1;hats 0 4;guess 0 fixed 3;");
        refused(x.better(), SO_ALREADY);
        same(table(0), "3");
        fine(x.many(4), 0);
    }

    // ---- build, rename

    @Sentence(of = "Promise 52", says = "PLAYERS of a SET have the TABLES OF A CLIQUE (whatever else they see):")
    void buildsWhateverElseTheySee() {
        // 1 and 2 win, though 1 sees 0, and 2 sees 3, of 4 and 3 COLOURS.
        game("players 4;hats 0 4;hats 3 3;link 1 2;sees 1 0;sees 2 3;guess 0 fixed 2;guess 3 fixed 1;");
        fine(x.build(6), 0);
        same(table(1), "01010101");
        same(table(2), "111000");
        same(table(0) + table(3), "21");
        fine(x.heeded(1), 4);
        fine(x.heeded(2), 2);
    }

    @Sentence(of = "Promise 52", says = "how many COLOURINGS are LOST then")
    void lostWhenBuilt() {
        game("players 2;hats 0 4;hats 1 3;link 0 1;");
        fine(x.build(3), 5);
        fine(x.lost(NONE), 5);
        game("players 3;link 0 1;link 1 2;link 0 2;guess 0 fixed 1;guess 1 fixed 1;guess 2 fixed 1;");
        fine(x.build(4), 1);
        fine(x.build(5), 0);
    }

    @Sentence(of = "Promise 52", says = "(2;")
    void buildsNoSet() {
        game(WON);
        bounds(NO_SUCH, 1, 3, x::build);
        x = new HatNet();
        refused(x.build(1), NO_SUCH);
        refused(x.build(0), NO_SUCH);
    }

    @Sentence(of = "Promise 52", says = "; 7;")
    void buildsNoClique() {
        game(GAME);
        refused(x.build(5), NOT_SEEN);
        refused(x.build(6), NOT_SEEN);
        refused(x.build(7), NOT_SEEN);
        fine(x.many(4), 0);
        // Nor with the TABLES that they would have.
        game(WON);
        x.see(0, 1, false);
        refused(x.build(3), NOT_SEEN);
    }

    @Sentence(of = "Promise 52", says = "4: they have them).")
    void buildsWhatTheyHave() {
        game(WON);
        refused(x.build(3), SO_ALREADY);
        fine(x.many(4), 0);
        x.set(1, 1, 1);
        fine(x.build(3), 0);
        refused(x.build(3), SO_ALREADY);
        x.set(0, 0, 1);
        fine(x.build(3), 0);
        refused(x.build(3), SO_ALREADY);
        fine(x.build(2), 1);
        refused(x.build(2), SO_ALREADY);
        game("players 1;");
        refused(x.build(1), SO_ALREADY);
    }

    @Sentence(of = "Promise 53", says = "Two unlike COLOURS of a PLAYER change their names, in its own TABLE")
    void renamesInItsOwnTable() {
        game("players 2;hats 0 4;hats 1 4;sees 0 1;guess 0 table 3 0 1 2;");
        x.rename(0, 0, 3);
        same(table(0), "0312");
        x.rename(0, 2, 1);
        same(table(0), "0321");
        same(table(1), "0");
        // Others are RIGHT, and LOST, then.
        game("players 3;hats 0 3;guess 0 fixed 1;guess 1 fixed 1;");
        fine(x.lost(0), 1);
        x.rename(0, 0, 1);
        fine(x.lost(0), 5);
        fine(x.lost(1), 9);
        fine(x.right(0), 5);
        fine(x.known(0, 0), 0);
    }

    @Sentence(of = "Promise 53", says = "and in those of all who see it:")
    void renamesInTablesOfAllWhoSeeIt() {
        game("players 4;hats 0 4;sees 1 0;sees 1 2;sees 2 3;sees 3 2;sees 3 0;guess 1 table 0 1 1 1 0 0 1 0;"
            + "guess 3 table 0 1 0 0 1 0 1 1;guess 2 table 0 1;");
        // 1 sees 0 ahead of 2, and so does 3.
        x.rename(0, 3, 1);
        same(table(1), "01" + "10" + "00" + "11");
        same(table(3), "01" + "11" + "10" + "00");
        same(table(2), "01");
        // Of one that is seen behind another one.
        x.rename(2, 0, 1);
        same(table(1), "10" + "01" + "00" + "11");
        same(table(2), "10");
        game("players 2;hats 1 3;sees 0 1;guess 0 table 0 1 1;");
        fine(x.rename(1, 0, 2), 3);
        same(table(0) + table(1), "1102");
    }

    @Sentence(of = "Promise 53", says = "how many entries of TABLES are others than they were")
    void howManyEntriesAreOthers() {
        game("players 2;hats 0 4;hats 1 4;link 0 1;guess 0 table 3 0 1 2;guess 1 table 2 2 0 1;");
        // Of 0 two; of 1 none, for COLOURS 0 and 1 are one to it.
        fine(x.rename(0, 0, 1), 2);
        same(table(0), "3102");
        same(table(1), "2201");
        fine(x.rename(0, 1, 3), 2 + 2);
        same(table(0), "1302");
        same(table(1), "2102");
        // None is another one, and still it is an ACT.
        game("players 2;hats 0 4;sees 1 0;");
        fine(x.rename(0, 1, 2), 0);
        fine(x.many(4), 1);
    }

    @Sentence(of = "Promise 53", says = "(2;")
    void renamesNone() {
        game(GAME);
        bounds(NO_SUCH, 0, 2, p -> x.rename(p, 0, 1));
        bounds(NO_SUCH, 0, 1, c -> x.rename(0, c, 1));
        bounds(NO_SUCH, 0, 1, c -> x.rename(0, 0, c));
        bounds(NO_SUCH, 0, 3, c -> x.rename(2, c, 1));
        bounds(NO_SUCH, 0, 3, c -> x.rename(2, 1, c));
        refused(x.rename(0, 2, 2), NO_SUCH);
        x = new HatNet();
        refused(x.rename(0, 0, 1), NO_SUCH);
    }

    @Sentence(of = "Promise 53", says = "4: one and itself).")
    void renamesOneAndItself() {
        game(GAME);
        for (int c = 0; c < 4; c++) {
            refused(x.rename(2, c, c), SO_ALREADY);
        }
        fine(x.many(4), 0);
    }

    // ---- see

    @Sentence(of = "Promise 54", says = "A PLAYER sees another one (yes), whatever its COLOUR it guesses as it did;")
    void seesOneMore() {
        game("players 4;hats 1 3;hats 2 3;sees 0 2;guess 0 table 1 0 1;");
        // Ahead of the one that it sees, behind it, and both.
        x.see(0, 1, true);
        same(table(0), "101" + "101" + "101");
        x.see(0, 3, true);
        same(table(0), "110011" + "110011" + "110011");
        fine(x.player(0, 1), 14);
        fine(x.player(1, 1), 0);
        fine(x.heeded(0), 4);
        x.see(3, 0, true);
        same(table(3), "00");
        // Between two that it sees.
        game("players 4;sees 0 1;sees 0 3;guess 0 table 0 1 1 0;");
        x.see(0, 2, true);
        same(table(0), "0101" + "1010");
        game("players 4;hats 1 3;hats 2 4;hats 3 3;sees 0 1;sees 0 3;guess 0 table 0 1 1 0 0 1 1 0 1;");
        fine(x.see(0, 2, true), 36);
        same(table(0), "011".repeat(4) + "001".repeat(4) + "101".repeat(4));
    }

    @Sentence(of = "Promise 54", says = "or no more: it guesses as it did with COLOUR 0 of that one:")
    void seesOneNoMore() {
        game("players 4;hats 1 3;hats 2 3;sees 0 1;sees 0 2;sees 0 3;guess 0 table 0 1 1 0 0 0 1 1 0 1 1 0 0 0 0 0 1 1;");
        x.see(0, 2, false);
        same(table(0), "01" + "11" + "00");
        x.undo();
        x.see(0, 1, false);
        same(table(0), "011000");
        x.undo();
        x.see(0, 3, false);
        same(table(0), "010" + "101" + "001");
        x.see(0, 1, false);
        x.see(0, 2, false);
        same(table(0), "0");
    }

    @Sentence(of = "Promise 54", says = "how many SITUATIONS it has then")
    void howManySituationsItHasThen() {
        game("players 4;hats 1 3;hats 2 1;hats 3 4;");
        fine(x.see(0, 2, true), 1);
        fine(x.see(0, 3, true), 4);
        fine(x.see(0, 1, true), 12);
        fine(x.see(0, 2, false), 12);
        fine(x.see(0, 3, false), 3);
        fine(x.see(0, 1, false), 1);
        fine(x.player(0, 3), 1);
    }

    @Sentence(of = "Promise 54", says = "(2;")
    void seesNobody() {
        game(GAME);
        bounds(NO_SUCH, 0, 2, p -> x.see(p, 1, true));
        bounds(NO_SUCH, 0, 2, q -> x.see(1, q, false));
        refused(x.see(3, 3, true), NO_SUCH);
        x = new HatNet();
        refused(x.see(0, 1, true), NO_SUCH);
        refused(x.see(0, 1, false), NO_SUCH);
    }

    @Sentence(of = "Promise 54", says = "4: one and itself,")
    void seesItself() {
        game(GAME);
        for (int p = 0; p < 3; p++) {
            refused(x.see(p, p, true), SO_ALREADY);
            refused(x.see(p, p, false), SO_ALREADY);
        }
        fine(x.many(4), 0);
    }

    @Sentence(of = "Promise 54", says = "it is so).")
    void seesAsItIs() {
        game(GAME);
        refused(x.see(0, 2, true), SO_ALREADY);
        refused(x.see(2, 0, false), SO_ALREADY);
        fine(x.many(4), 0);
        x.see(2, 0, true);
        refused(x.see(2, 0, true), SO_ALREADY);
        x.see(2, 0, false);
        refused(x.see(2, 0, false), SO_ALREADY);
        fine(x.many(4), 2);
    }

    // ---- shuffle, undo

    @Sentence(of = "Promise 55", says = "TABLES are DRAWN by a seed (0 to 999,999,999):")
    void shuffledByASeed() {
        game(GAME);
        bounds(BAD_NUMBER, 0, 999999999, x::shuffle);
        int[] colours = {2, 3, 4};
        for (int seed : new int[] {0, 999999999}) {
            x.shuffle(seed);
            long drawn = seed;
            for (int p = 0; p < 3; p++) {
                int situations = x.player(p, 3);
                for (int s = 0; s < situations; s++) {
                    drawn = drawn * 6364136223846793005L + 1442695040888963407L;
                    fine(x.guess(p, s), (int) ((drawn >>> 33) % colours[p]));
                }
            }
        }
    }

    @Sentence(of = "Promise 55", says = "how many COLOURINGS are LOST then")
    void lostWhenShuffled() {
        game("players 3;hats 1 3;hats 2 4;sees 0 1;sees 1 2;");
        for (int seed = 0; seed < 10; seed++) {
            fine(x.shuffle(seed), 1 * 2 * 3);
        }
        game("players 2;link 0 1;");
        for (int seed = 0; seed < 20; seed++) {
            int lost = x.shuffle(seed);
            int found = 0;
            for (int c = 0; c < 4; c++) {
                found += x.guess(0, c % 2) != c / 2 && x.guess(1, c / 2) != c % 2 ? 1 : 0;
            }
            same(lost, found);
        }
    }

    @Sentence(of = "Promise 55", says = "(1;")
    void shuffledByNoSeed() {
        game(GAME);
        String before = printed();
        refused(x.shuffle(-1), BAD_NUMBER);
        refused(x.shuffle(MIN), BAD_NUMBER);
        refused(x.shuffle(1000000000), BAD_NUMBER);
        refused(x.shuffle(MAX), BAD_NUMBER);
        same(printed(), before);
        x = new HatNet();
        refused(x.shuffle(1000000000), BAD_NUMBER);
    }

    @Sentence(of = "Promise 55", says = "5: no PLAYERS).")
    void nobodyIsShuffled() {
        refused(x.shuffle(0), THERE_IS_NONE);
        refused(x.shuffle(999999999), THERE_IS_NONE);
        fine(x.many(4), 0);
    }

    @Sentence(of = "Promise 56", says = "UNDO: how many more can be")
    void howManyMoreCanBeUndone() {
        game("players 1;hats 0 4;");
        for (int i = 1; i <= 9; i++) {
            x.set(0, 0, i % 4);
        }
        for (int left = 5; left >= 0; left--) {
            fine(x.undo(), left);
            fine(x.many(4), left);
        }
        same(table(0), "3");
        // All that an ACT has changed goes back: who is RIGHT, too.
        game(WON);
        x.see(0, 1, false);
        fine(x.lost(NONE), 1);
        fine(x.undo(), 0);
        fine(x.lost(NONE), 0);
        same(table(0), "01");
        fine(x.situation(0, 3), 1);
        fine(x.player(1, 2), 1);
    }

    @Sentence(of = "Promise 56", says = "(5).")
    void nothingToUndo() {
        refused(x.undo(), THERE_IS_NONE);
        game(WON);
        refused(x.undo(), THERE_IS_NONE);
        x.set(0, 0, 1);
        fine(x.undo(), 0);
        refused(x.undo(), THERE_IS_NONE);
        // What was refused is nothing to undo.
        x.set(0, 0, 0);
        x.take(0);
        x.better();
        x.build(3);
        x.see(0, 1, true);
        refused(x.undo(), THERE_IS_NONE);
    }

    // ---- OUT

    @Sentence(of = "Promise 57", says = "OUT is a TEXT by which load() tells the GAME as it is:")
    void printedTextTellsTheGame() {
        game(GAME);
        x.shuffle(9);
        x.see(1, 2, true);
        x.rename(2, 0, 3);
        String text = printed();
        int lost = x.lost(NONE);
        String tables = table(0) + table(1) + table(2);
        x = new HatNet();
        loads(text, 3);
        fine(x.lost(NONE), lost);
        same(table(0) + table(1) + table(2), tables);
        same(printed(), text);
        // Without PLAYERS, too.
        loads("", 0);
        same(printed(), "");
    }

    @Sentence(of = "Promise 57", says = "players, hats (of all), sees (of all pairs, by the first one, then the other), guess "
        + "(of all, as tables);")
    void printedLinesInOrder() {
        game("players 3;sees 2 1;hats 1 4;link 2 0;sees 0 1;guess 2 next 1;guess 0 fixed 1;");
        same(printed(), "players 3;hats 0 2;hats 1 4;hats 2 2;sees 0 1;sees 0 2;sees 2 0;sees 2 1;"
            + "guess 0 table 1 1 1 1 1 1 1 1;guess 1 table 0;guess 2 table 1 0 1 0 1 0 1 0;");
        game("players 1;hats 0 1;");
        same(printed(), "players 1;hats 0 1;guess 0 table 0;");
    }

    @Sentence(of = "Promise 57", says = "TOKENS with one blank ahead, but for the first of each LINE and ; :")
    void printedBlanks() {
        game("  players\n1 ; guess 0   sum\n\n3;");
        same(printed(), "players 1;hats 0 2;guess 0 table 1;");
        for (int i = 0; i < 34; i++) {
            same(x.out(i) == 10 ? 1 : 0, 0);
        }
        fine(x.out(7), ' ');
        fine(x.out(9), ';');
        fine(x.out(10), 'h');
    }

    /** Takes just 600 bytes. */
    private static final String JUST_600 = "players 5;hats 0 4;hats 1 3;hats 3 2;hats 4 3;sees 0 1;link 0 2;link 0 3;"
        + "link 1 2;sees 2 3;link 2 4;link 3 4;sees 3 1;sees 4 0;sees 4 1;";
    /** Takes one more. */
    private static final String JUST_601 = "players 5;hats 0 4;hats 2 4;hats 3 4;hats 4 3;link 0 3;sees 1 3;link 1 4;"
        + "sees 3 2;link 3 4;sees 4 0;sees 4 2;";

    @Sentence(of = "Promise 57", says = "how many bytes, if there are 600 at most")
    void printedBytesUpTo600() {
        game(JUST_600);
        fine(x.print(), 600);
        fine(x.out(599), ';');
        String text = Check.out(x);
        same(text.length(), 600);
        x = new HatNet();
        loads(text, 5);
        same(printed(), text);
        game("players 1;");
        fine(x.print(), 10 + 9 + 16);
    }

    @Sentence(of = "Promise 57", says = "(3;")
    void printsNotMoreThan600() {
        game("players 1;");
        String before = printed();
        loads(JUST_601, 5);
        refused(x.print(), TOO_MANY);
        same(Check.out(x), before);
        // With sight taken it is short enough.
        x.see(1, 4, false);
        fine(x.print(), 601 - 9 - 2 * 8);
        x.undo();
        refused(x.print(), TOO_MANY);
    }

    @Sentence(of = "Promise 57", says = "0 without PLAYERS).")
    void printsNothingWithoutPlayers() {
        fine(x.print(), 0);
        game(WON);
        x.print();
        x.load(0);
        fine(x.out(0), 'p');
        fine(x.print(), 0);
        refused(x.out(0), THERE_IS_NONE);
    }

    @Sentence(of = "Promise 58", says = "Byte i of OUT")
    void byteOfOut() {
        game("players 1;guess 0 fixed 1;");
        String due = "players 1;hats 0 2;guess 0 table 1;";
        fine(x.print(), due.length());
        for (int i = 0; i < due.length(); i++) {
            fine(x.out(i), due.charAt(i));
        }
        // It stays as it was printed.
        x.set(0, 0, 0);
        fine(x.out(due.length() - 2), '1');
        loads("players 2;", 2);
        fine(x.out(8), '1');
    }

    @Sentence(of = "Promise 58", says = "(1: below 0;")
    void byteBelowZero() {
        refused(x.out(-1), BAD_NUMBER);
        refused(x.out(MIN), BAD_NUMBER);
        game(WON);
        x.print();
        refused(x.out(-1), BAD_NUMBER);
        refused(x.out(MIN), BAD_NUMBER);
    }

    @Sentence(of = "Promise 58", says = "5: OUT has not so many,")
    void byteBeyondOut() {
        game("players 1;");
        fine(x.print(), 35);
        fine(x.out(34), ';');
        refused(x.out(35), THERE_IS_NONE);
        refused(x.out(600), THERE_IS_NONE);
        refused(x.out(MAX), THERE_IS_NONE);
        // A shorter one leaves nothing of a longer one.
        loads(JUST_600, 5);
        fine(x.print(), 600);
        refused(x.out(600), THERE_IS_NONE);
        loads("players 1;", 1);
        fine(x.print(), 35);
        refused(x.out(35), THERE_IS_NONE);
    }

    @Sentence(of = "Promise 58", says = "or there is none yet).")
    void noOutYet() {
        refused(x.out(0), THERE_IS_NONE);
        game(WON);
        refused(x.out(0), THERE_IS_NONE);
        // Nor when it would have too many.
        loads(JUST_601, 5);
        refused(x.print(), TOO_MANY);
        refused(x.out(0), THERE_IS_NONE);
    }
}
