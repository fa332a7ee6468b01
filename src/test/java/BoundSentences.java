/** Promises 30 to 42: bounds, and ways to guess. */
final class BoundSentences extends Sentences {
    private static final String WON = "players 2;link 0 1;guess 0 same 1;guess 1 next 0;";
    /** 0 sees 1 and 2, 1 sees 2, 3 sees 2; of 2, 3, 4 and 2 COLOURS. */
    private static final String STEPWISE = "players 4;hats 1 3;hats 2 4;sees 0 1;sees 1 2;sees 0 2;sees 3 2;";

    // ---- bounds

    @Sentence(of = "Promise 30", says = "1 if it is ACYCLIC, else 0.")
    void acyclicOrNot() {
        fine(x.acyclic(), 1);
        game("players 1;");
        fine(x.acyclic(), 1);
        game(STEPWISE);
        fine(x.acyclic(), 1);
        x.see(2, 3, true);
        fine(x.acyclic(), 0);
        x.undo();
        x.see(2, 0, true);
        fine(x.acyclic(), 0);
        // Who is seen all round, and who sees it, takes no part in the round.
        game("players 6;sees 0 1;sees 1 2;sees 2 3;sees 3 1;sees 3 4;sees 4 5;");
        fine(x.acyclic(), 0);
        x.see(3, 1, false);
        fine(x.acyclic(), 1);
    }

    @Sentence(of = "Promise 31", says = "How many COLOURINGS are LOST, whatever the TABLES, if it is ACYCLIC (all, times 1 "
        + "less 1 by its COLOURS for each PLAYER)")
    void alwaysAsManyAreLost() {
        game(STEPWISE);
        fine(x.always(), 1 * 2 * 3 * 1);
        for (int seed = 0; seed < 10; seed++) {
            fine(x.shuffle(seed), 6);
            fine(x.always(), 6);
        }
        game("players 6;hats 0 4;hats 1 4;hats 2 4;hats 3 4;hats 4 4;hats 5 4;");
        fine(x.always(), 729);
        game("players 2;hats 0 4;hats 1 1;");
        fine(x.always(), 0);
    }

    @Sentence(of = "Promise 31", says = "(5: it is not,")
    void alwaysOfOneNotAcyclic() {
        game(WON);
        refused(x.always(), THERE_IS_NONE);
        game("players 3;hats 0 1;sees 0 1;sees 1 2;sees 2 0;");
        refused(x.always(), THERE_IS_NONE);
    }

    @Sentence(of = "Promise 31", says = "no PLAYERS).")
    void alwaysOfNobody() {
        refused(x.always(), THERE_IS_NONE);
    }

    @Sentence(of = "Promise 32", says = "The greatest SET of PLAYERS none of whom sees another one of it, as bits,")
    void greatestBlindSet() {
        game(STEPWISE);
        fine(x.blind(), 9);
        game("players 4;link 0 1;link 0 2;link 0 3;");
        fine(x.blind(), 14);
        game("players 6;");
        fine(x.blind(), 63);
        game("players 6;sees 5 0;");
        fine(x.blind(), 31);
        game("players 1;");
        fine(x.blind(), 1);
    }

    @Sentence(of = "Promise 32", says = "of several the least")
    void blindOfSeveralTheLeast() {
        game(WON);
        fine(x.blind(), 1);
        game("players 4;link 0 1;link 1 2;link 2 3;link 3 0;");
        fine(x.blind(), 5);
        game("players 4;sees 3 2;sees 1 0;");
        fine(x.blind(), 5);
    }

    @Sentence(of = "Promise 32", says = "(5: no PLAYERS).")
    void blindOfNobody() {
        refused(x.blind(), THERE_IS_NONE);
    }

    @Sentence(of = "Promise 33", says = "SHARE of a SET, in lowest terms, what 0: above, 1: below")
    void shareInLowestTerms() {
        game("players 6;hats 0 4;hats 1 4;hats 2 3;hats 3 3;hats 4 3;hats 5 1;");
        int[][] due = {{1, 1, 4}, {3, 1, 2}, {4, 1, 3}, {12, 2, 3}, {28, 1, 1}, {32, 1, 1}, {5, 7, 12}, {7, 5, 6},
            {35, 3, 2}, {63, 5, 2}, {60, 2, 1}};
        for (int[] one : due) {
            fine(x.share(one[0], 0), one[1]);
            fine(x.share(one[0], 1), one[2]);
        }
        game("players 6;hats 0 1;hats 1 1;hats 2 1;hats 3 1;hats 4 1;hats 5 1;");
        fine(x.share(63, 0), 6);
        fine(x.share(63, 1), 1);
    }

    @Sentence(of = "Promise 33", says = "(1;")
    void shareOfNothingElse() {
        game(STEPWISE);
        bounds(BAD_NUMBER, 0, 1, what -> x.share(15, what));
        refused(x.share(16, 2), BAD_NUMBER);
    }

    @Sentence(of = "Promise 33", says = "; 2).")
    void shareOfNoSet() {
        game(STEPWISE);
        bounds(NO_SUCH, 1, 15, set -> x.share(set, 0));
        bounds(NO_SUCH, 1, 15, set -> x.share(set, 1));
        x = new HatNet();
        refused(x.share(1, 0), NO_SUCH);
    }

    @Sentence(of = "Promise 34", says = "How many COLOURINGS are LOST at the least, whatever the TABLES, as SHARE tells")
    void leastAsShareTells() {
        game("players 2;hats 0 3;hats 1 4;link 0 1;");
        fine(x.least(), 12 - 4 - 3);
        game("players 1;hats 0 4;");
        fine(x.least(), 3);
        game("players 5;hats 0 4;hats 1 4;hats 2 4;hats 3 4;hats 4 1;");
        fine(x.least(), 0);
        game("players 3;hats 0 4;hats 1 4;hats 2 4;");
        fine(x.least(), 16);
    }

    @Sentence(of = "Promise 34", says = "(0 at least).")
    void leastIsNeverBelowZero() {
        fine(x.least(), 0);
        game("players 2;");
        fine(x.least(), 0);
        game("players 3;");
        fine(x.least(), 0);
        game("players 6;hats 0 1;hats 1 1;hats 2 1;hats 3 1;hats 4 1;hats 5 1;");
        fine(x.least(), 0);
    }

    @Sentence(of = "Promise 35", says = "The greatest CLIQUE, as bits,")
    void greatestClique() {
        game("players 5;hats 3 1;link 0 1;link 1 2;link 0 2;link 3 4;sees 2 3;");
        fine(x.clique(), 7);
        game("players 6;link 3 4;link 4 5;link 3 5;link 0 1;");
        fine(x.clique(), 56);
        game("players 1;");
        fine(x.clique(), 1);
    }

    @Sentence(of = "Promise 35", says = "of several the least")
    void cliqueOfSeveralTheLeast() {
        game("players 3;");
        fine(x.clique(), 1);
        game("players 4;link 2 3;link 0 3;link 1 2;");
        fine(x.clique(), 6);
    }

    @Sentence(of = "Promise 35", says = "(5: no PLAYERS).")
    void cliqueOfNobody() {
        refused(x.clique(), THERE_IS_NONE);
    }

    @Sentence(of = "Promise 36", says = "The CLIQUE with the greatest SHARE, as bits,")
    void strongestClique() {
        game("players 5;hats 0 4;hats 1 4;hats 2 4;hats 3 2;hats 4 3;link 0 1;link 1 2;link 0 2;link 3 4;sees 2 3;");
        fine(x.strongest(), 24);
        game("players 4;hats 3 1;link 0 1;link 1 2;");
        fine(x.strongest(), 3);
        game("players 4;hats 0 3;hats 3 1;link 0 1;");
        fine(x.strongest(), 8);
        game(WON);
        fine(x.strongest(), 3);
        game("players 1;hats 0 4;");
        fine(x.strongest(), 1);
    }

    @Sentence(of = "Promise 36", says = "of several the least")
    void strongestOfSeveralTheLeast() {
        game("players 3;");
        fine(x.strongest(), 1);
        // 1 by 4 and 1 by 4 are as much as 1 by 2.
        game("players 3;hats 0 4;hats 1 4;link 0 1;");
        fine(x.strongest(), 3);
        game("players 3;hats 1 4;hats 2 4;link 1 2;");
        fine(x.strongest(), 1);
    }

    @Sentence(of = "Promise 36", says = "(5: no PLAYERS).")
    void strongestOfNobody() {
        refused(x.strongest(), THERE_IS_NONE);
    }

    @Sentence(of = "Promise 37", says = "How many CLIQUES there are (with one PLAYER or more)")
    void sureCliquesOfOneOrMore() {
        fine(x.sure(), 0);
        game("players 1;hats 0 1;");
        fine(x.sure(), 1);
        game("players 1;");
        fine(x.sure(), 0);
        game("players 3;hats 0 1;hats 1 1;hats 2 1;link 0 1;");
        fine(x.sure(), 4);
    }

    @Sentence(of = "Promise 37", says = "with a SHARE of 1 or more.")
    void sureWithAShareOfOne() {
        // Just 1: two of 2, three of 3. Less: two of 3 and 4, of 2 and 3. More: 2, 2 and 3.
        game("players 2;link 0 1;");
        fine(x.sure(), 1);
        game("players 3;hats 0 3;hats 1 3;hats 2 3;link 0 1;link 0 2;link 1 2;");
        fine(x.sure(), 1);
        game("players 3;hats 0 3;hats 1 3;hats 2 4;link 0 1;link 0 2;link 1 2;");
        fine(x.sure(), 0);
        game("players 3;hats 2 3;link 0 1;link 0 2;link 1 2;");
        fine(x.sure(), 2);
        game("players 4;link 0 1;link 0 2;link 1 2;link 0 3;link 1 3;link 2 3;");
        fine(x.sure(), 6 + 4 + 1);
    }

    // ---- ways to guess

    @Sentence(of = "Promise 38", says = "How many COLOURINGS are LOST, if a PLAYER has its BEST TABLE")
    void lostWithTheBestTable() {
        game("players 2;link 0 1;guess 1 same 0;");
        fine(x.best(0), 0);
        fine(x.best(1), 1);
        fine(x.lost(NONE), 1);
        game("players 3;hats 0 4;hats 1 2;link 1 2;guess 1 same 2;");
        fine(x.best(0), 3);
        fine(x.best(1), 3);
        fine(x.best(2), 0);
        game("players 1;hats 0 1;");
        fine(x.best(0), 0);
    }

    @Sentence(of = "Promise 38", says = "(2).")
    void bestOfNobody() {
        game(STEPWISE);
        bounds(NO_SUCH, 0, 3, x::best);
        x = new HatNet();
        refused(x.best(0), NO_SUCH);
    }

    @Sentence(of = "Promise 39", says = "The COLOUR of BEST of a PLAYER in a SITUATION")
    void bestInASituation() {
        game("players 3;hats 0 3;link 0 1;sees 0 2;guess 1 table 0 1 1;guess 2 fixed 1;");
        // 1 has 0 rightly with 0, 1 with 1 or 2. With 0 of 2: shown 0 by 1, it may have 1 or 2; shown 1, 0.
        fine(x.bestAt(0, 0), 1);
        fine(x.bestAt(0, 1), 0);
        fine(x.bestAt(0, 2), 0);
        fine(x.bestAt(0, 3), 0);
        fine(x.guess(0, 0), 0);
    }

    @Sentence(of = "Promise 39", says = "(2).")
    void bestAtNone() {
        game(STEPWISE);
        bounds(NO_SUCH, 0, 3, p -> x.bestAt(p, 0));
        bounds(NO_SUCH, 0, 11, s -> x.bestAt(0, s));
        bounds(NO_SUCH, 0, 0, s -> x.bestAt(2, s));
        bounds(NO_SUCH, 0, 3, s -> x.bestAt(3, s));
        x = new HatNet();
        refused(x.bestAt(0, 0), NO_SUCH);
    }

    @Sentence(of = "Promise 40", says = "The PLAYER by whose BEST fewest are LOST,")
    void betteredByWhom() {
        game("players 3;hats 0 4;hats 1 2;link 1 2;guess 1 same 2;");
        fine(x.bettered(), 2);
        game("players 1;");
        fine(x.bettered(), 0);
    }

    @Sentence(of = "Promise 40", says = "of several the first")
    void betteredBySeveralTheFirst() {
        game("players 2;link 0 1;guess 0 same 1;guess 1 same 0;");
        fine(x.best(0), 0);
        fine(x.best(1), 0);
        fine(x.bettered(), 0);
        game(WON);
        fine(x.bettered(), 0);
        game("players 6;link 4 5;guess 5 same 4;guess 4 same 5;");
        fine(x.bettered(), 4);
    }

    @Sentence(of = "Promise 40", says = "(5: no PLAYERS).")
    void betteredByNobody() {
        refused(x.bettered(), THERE_IS_NONE);
    }

    /** Each of 3 COLOURS, each sees the next one: 3 to the 9th ways, the most that are not too many. */
    private static final String ONE_WAY_RING = "players 3;hats 0 3;hats 1 3;hats 2 3;sees 0 1;sees 1 2;sees 2 0;";
    /** 3 to the 4th times 2 to the 8th: no less above 20,000 is made of 2, 3 and 4. */
    private static final String TOO_MANY_WAYS = "players 5;hats 0 3;hats 1 3;sees 1 0;sees 2 3;sees 2 4;sees 3 4;"
        + "sees 4 2;";

    @Sentence(of = "Promise 41", says = "Of all ways in which all PLAYERS could guess, if there are at most 20,000 of them,")
    void waysUpToTwentyThousand() {
        game(ONE_WAY_RING);
        fine(x.ways(0), 19683);
        game(TOO_MANY_WAYS);
        refused(x.ways(0), TOO_MANY);
        // 3 to the 3rd times 2 to the 8th.
        x.see(1, 0, false);
        fine(x.ways(0), 9 * 256);
    }

    @Sentence(of = "Promise 41", says = "what 0: how many there are,")
    void howManyWays() {
        fine(x.ways(0), 1);
        game("players 1;hats 0 1;");
        fine(x.ways(0), 1);
        game("players 2;hats 0 4;hats 1 3;");
        fine(x.ways(0), 12);
        game("players 2;hats 0 4;hats 1 3;sees 1 0;");
        fine(x.ways(0), 4 * 81);
        game("players 6;hats 0 1;hats 1 1;hats 2 1;hats 3 1;hats 4 1;hats 5 4;sees 5 0;sees 0 5;sees 1 5;");
        fine(x.ways(0), 4);
        game("players 6;link 0 1;link 0 2;link 3 4;sees 5 0;");
        fine(x.ways(0), 16384);
    }

    /** The ways of ONE_WAY_RING by themselves: how many are WON, or how few are LOST in one. */
    private static int waysRoundThree(boolean lostInOne) {
        int won = 0;
        int fewest = MAX;
        for (int way = 0; way < 19683; way++) {
            int lost = 0;
            for (int c = 0; c < 27; c++) {
                int a = c / 9;
                int b = c / 3 % 3;
                int d = c % 3;
                boolean right = third(way, b) == a || third(way / 27, d) == b || third(way / 729, a) == d;
                lost += right ? 0 : 1;
            }
            won += lost == 0 ? 1 : 0;
            fewest = Math.min(fewest, lost);
        }
        return lostInOne ? fewest : won;
    }

    private static int third(int way, int shown) {
        return (shown == 0 ? way : shown == 1 ? way / 3 : way / 9) % 3;
    }

    @Sentence(of = "Promise 41", says = "1: how many are WON,")
    void howManyWaysAreWon() {
        fine(x.ways(1), 1);
        game(WON);
        fine(x.ways(1), 2);
        game("players 1;");
        fine(x.ways(1), 0);
        game("players 2;hats 0 4;hats 1 1;sees 0 1;");
        fine(x.ways(1), 4);
        game(ONE_WAY_RING);
        fine(x.ways(1), waysRoundThree(false));
        game("players 3;link 0 1;");
        fine(x.ways(1), 2 * 2);
    }

    @Sentence(of = "Promise 41", says = "2: how few COLOURINGS are LOST at the least")
    void howFewAreLostInAWay() {
        fine(x.ways(2), 0);
        game(WON);
        fine(x.ways(2), 0);
        game("players 1;hats 0 4;");
        fine(x.ways(2), 3);
        game("players 2;hats 0 1;hats 1 4;");
        fine(x.ways(2), 0);
        game("players 6;hats 0 4;hats 1 4;hats 2 4;hats 3 4;hats 4 4;hats 5 4;");
        fine(x.ways(2), 729);
        game(ONE_WAY_RING);
        fine(x.ways(2), waysRoundThree(true));
    }

    @Sentence(of = "Promise 41", says = "(1;")
    void waysOfNothingElse() {
        game(WON);
        bounds(BAD_NUMBER, 0, 2, x::ways);
        game(TOO_MANY_WAYS);
        refused(x.ways(3), BAD_NUMBER);
        refused(x.ways(-1), BAD_NUMBER);
    }

    @Sentence(of = "Promise 41", says = "3: there are more).")
    void moreWays() {
        for (String text : new String[] {TOO_MANY_WAYS, "players 5;link 0 1;link 1 2;link 2 3;sees 3 0;",
            "players 4;hats 0 4;hats 1 4;hats 2 4;hats 3 4;sees 0 1;sees 0 2;", "players 6;hats 0 4;hats 1 4;hats 2 4;"
            + "hats 3 4;hats 4 4;hats 5 4;link 0 1;link 0 2;link 0 3;link 0 4;link 0 5;sees 1 2;sees 1 3;sees 1 4;"}) {
            game(text);
            for (int what = 0; what < 3; what++) {
                refused(x.ways(what), TOO_MANY);
            }
        }
    }

    // ---- search

    /** By set() and better(): draws the TABLES of ONE_WAY_RING itself. */
    private int lostFrom(long seed) {
        game(ONE_WAY_RING);
        long drawn = seed;
        for (int p = 0; p < 3; p++) {
            for (int s = 0; s < 3; s++) {
                drawn = drawn * 6364136223846793005L + 1442695040888963407L;
                x.set(p, s, (int) ((drawn >>> 33) % 3));
            }
        }
        x.better();
        return x.lost(NONE);
    }

    private void searched(int from, int times) {
        int fewest = MAX;
        int first = NONE;
        for (int seed = from; seed < from + times; seed++) {
            int lost = lostFrom(seed);
            if (lost < fewest) {
                fewest = lost;
                first = seed;
            }
        }
        game(ONE_WAY_RING);
        fine(x.search(from, times, 0), fewest);
        fine(x.search(from, times, 1), first);
    }

    @Sentence(of = "Promise 42", says = "Of n times (1 to 10),")
    void fromOneToTenTimes() {
        game(ONE_WAY_RING);
        bounds(BAD_NUMBER, 1, 10, n -> x.search(0, n, 0));
        for (int from = 0; from < 60; from += 10) {
            searched(from, 10);
        }
        searched(7, 1);
    }

    @Sentence(of = "Promise 42", says = "with seeds from s on, s 0 to 999,999,999:")
    void seedsFromZeroToTheGreatest() {
        game(ONE_WAY_RING);
        bounds(BAD_NUMBER, 0, 999999999, s -> x.search(s, 1, 0));
        searched(0, 1);
        searched(999999999, 1);
        // Those behind it are no seeds of a call, but of its n times.
        searched(999999999, 10);
        searched(999999995, 10);
    }

    @Sentence(of = "Promise 42", says = "TABLES DRAWN, then bettered as better() does:")
    void drawnThenBettered() {
        game(ONE_WAY_RING);
        for (int seed = 0; seed < 5; seed++) {
            game(ONE_WAY_RING);
            int found = x.search(seed, 1, 0);
            x.shuffle(seed);
            x.better();
            fine(x.lost(NONE), found);
        }
        // The TABLES stay as they are, and it is no ACT.
        game(ONE_WAY_RING + "guess 0 same 1;guess 1 next 2;guess 2 same 0;");
        String before = printed();
        x.search(3, 10, 0);
        x.search(3, 10, 1);
        same(printed(), before);
        fine(x.many(4), 0);
        fine(x.exact(1), 9);
    }

    @Sentence(of = "Promise 42", says = "how few COLOURINGS are LOST at the least (what 0),")
    void fewestLostOfTheSearch() {
        game("players 1;hats 0 4;");
        fine(x.search(5, 10, 0), 3);
        game("players 2;hats 0 1;");
        fine(x.search(5, 10, 0), 0);
        searched(20, 4);
        searched(21, 3);
    }

    @Sentence(of = "Promise 42", says = "the first seed with that (1)")
    void theFirstSeedWithThat() {
        game("players 1;hats 0 4;");
        fine(x.search(5, 10, 1), 5);
        boolean later = false;
        for (int from = 0; from < 30; from++) {
            int fewest = lostFrom(from);
            game(ONE_WAY_RING);
            later |= x.search(from, 10, 0) < fewest;
            if (x.search(from, 10, 0) < fewest) {
                searched(from, 10);
            }
        }
        same(later ? 1 : 0, 1);
    }

    @Sentence(of = "Promise 42", says = "(1) (1;")
    void searchOfNothingElse() {
        game(ONE_WAY_RING);
        bounds(BAD_NUMBER, 0, 1, what -> x.search(0, 1, what));
        x = new HatNet();
        refused(x.search(0, 1, 2), BAD_NUMBER);
        refused(x.search(0, 0, 0), BAD_NUMBER);
        refused(x.search(1000000000, 1, 0), BAD_NUMBER);
    }

    @Sentence(of = "Promise 42", says = "5: no PLAYERS).")
    void searchOfNobody() {
        refused(x.search(0, 1, 0), THERE_IS_NONE);
        refused(x.search(999999999, 10, 1), THERE_IS_NONE);
    }
}
