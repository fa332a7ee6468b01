/** Promises 15 to 29: all COLOURINGS looked at. */
final class ColouringSentences extends Sentences {
    /** Of 2, 3 and 1 COLOURS; 0 sees 1. By number, RIGHT are: 0 2, 2, 1 2, 2, 0 2, 0 1 2. */
    private static final String MIXED = "players 3;hats 0 2;hats 1 3;hats 2 1;sees 0 1;guess 0 table 0 1 1;"
        + "guess 1 fixed 2;";
    /** Nobody sees anybody. LOST are 0 0 1 and 2 0 1 of 3, 2 and 2 COLOURS: the numbers 1 and 9. */
    private static final String TWO_LOST = "players 3;hats 0 3;guess 0 fixed 1;guess 1 fixed 1;";
    private static final String WON = "players 2;link 0 1;guess 0 same 1;guess 1 next 0;";

    // ---- who is RIGHT

    @Sentence(of = "Promise 15", says = "Who is RIGHT in a COLOURING, as bits")
    void rightAsBits() {
        game(MIXED);
        int[] due = {5, 4, 6, 4, 5, 7};
        for (int c = 0; c < 6; c++) {
            fine(x.right(c), due[c]);
        }
        game("players 6;guess 5 fixed 1;");
        fine(x.right(0), 31);
        fine(x.right(1), 63);
        fine(x.right(62), 0);
        fine(x.right(63), 32);
    }

    @Sentence(of = "Promise 15", says = "(2).")
    void rightInNone() {
        game(MIXED);
        bounds(NO_SUCH, 0, 5, x::right);
        x = new HatNet();
        refused(x.right(0), NO_SUCH);
    }

    @Sentence(of = "Promise 16", says = "LOST ones: how many (k NONE),")
    void howManyAreLost() {
        game(TWO_LOST);
        fine(x.lost(NONE), 2);
        game(WON);
        fine(x.lost(NONE), 0);
        x = new HatNet();
        fine(x.lost(NONE), 0);
    }

    @Sentence(of = "Promise 16", says = "the k-th (from 0 on, by numbers)")
    void lostOnesByNumbers() {
        game(TWO_LOST);
        fine(x.lost(0), 1);
        fine(x.lost(1), 9);
        // Of six who guess 0, the last one alone is LOST; of one with 4 COLOURS all but the guess.
        game("players 6;");
        fine(x.lost(0), 63);
        game("players 1;hats 0 4;guess 0 fixed 2;");
        fine(x.lost(0), 0);
        fine(x.lost(1), 1);
        fine(x.lost(2), 3);
    }

    @Sentence(of = "Promise 16", says = "(1: k below NONE;")
    void lostBelowNone() {
        game(TWO_LOST);
        refused(x.lost(-2), BAD_NUMBER);
        refused(x.lost(MIN), BAD_NUMBER);
        x = new HatNet();
        refused(x.lost(-2), BAD_NUMBER);
    }

    @Sentence(of = "Promise 16", says = "5: not so many).")
    void notSoManyLost() {
        game(TWO_LOST);
        refused(x.lost(2), THERE_IS_NONE);
        refused(x.lost(MAX), THERE_IS_NONE);
        game(WON);
        refused(x.lost(0), THERE_IS_NONE);
        x = new HatNet();
        refused(x.lost(0), THERE_IS_NONE);
    }

    @Sentence(of = "Promise 17", says = "In how many COLOURINGS just m PLAYERS (0 to 6)")
    void exactFromNoneToSix() {
        game(MIXED);
        int[] due = {0, 2, 3, 1, 0, 0, 0};
        for (int m = 0; m <= 6; m++) {
            fine(x.exact(m), due[m]);
        }
        game("players 6;");
        int[] six = {1, 6, 15, 20, 15, 6, 1};
        for (int m = 0; m <= 6; m++) {
            fine(x.exact(m), six[m]);
        }
        x = new HatNet();
        fine(x.exact(0), 0);
        fine(x.exact(6), 0);
    }

    @Sentence(of = "Promise 17", says = "are RIGHT (1).")
    void exactBeyond() {
        game(MIXED);
        bounds(BAD_NUMBER, 0, 6, x::exact);
        x = new HatNet();
        bounds(BAD_NUMBER, 0, 6, x::exact);
    }

    @Sentence(of = "Promise 18", says = "In how many COLOURINGS a PLAYER alone is RIGHT")
    void rightAlone() {
        game(MIXED);
        fine(x.alone(0), 0);
        fine(x.alone(1), 0);
        fine(x.alone(2), 2);
        game("players 1;hats 0 4;");
        fine(x.alone(0), 1);
        game("players 6;");
        fine(x.alone(5), 1);
    }

    @Sentence(of = "Promise 18", says = "(2).")
    void nobodyAlone() {
        game(MIXED);
        bounds(NO_SUCH, 0, 2, x::alone);
        x = new HatNet();
        refused(x.alone(0), NO_SUCH);
    }

    @Sentence(of = "Promise 19", says = "In how many COLOURINGS two unlike PLAYERS are both RIGHT")
    void twoBothRight() {
        game(MIXED);
        fine(x.both(0, 1), 1);
        fine(x.both(1, 0), 1);
        fine(x.both(0, 2), 3);
        fine(x.both(2, 1), 2);
        game(WON);
        fine(x.both(1, 0), 0);
    }

    @Sentence(of = "Promise 19", says = "(2;")
    void bothOfNone() {
        game(MIXED);
        bounds(NO_SUCH, 0, 2, p -> x.both(p, 1));
        bounds(NO_SUCH, 0, 2, q -> x.both(1, q));
        refused(x.both(3, 3), NO_SUCH);
        x = new HatNet();
        refused(x.both(0, 1), NO_SUCH);
    }

    @Sentence(of = "Promise 19", says = "4: one and itself).")
    void bothOfOneAndItself() {
        game(MIXED);
        for (int p = 0; p < 3; p++) {
            refused(x.both(p, p), SO_ALREADY);
        }
    }

    @Sentence(of = "Promise 20", says = "How many COLOURINGS are LOST, if only PLAYERS of a SET guess")
    void lostIfOnlySomeGuess() {
        game(MIXED);
        int[] due = {0, 3, 4, 2, 0, 0, 0, 0};
        for (int set = 1; set < 8; set++) {
            fine(x.without(set), due[set]);
        }
    }

    @Sentence(of = "Promise 20", says = "(2).")
    void withoutSetsThatCantBe() {
        game(MIXED);
        bounds(NO_SUCH, 1, 7, x::without);
        refused(x.without(9), NO_SUCH);
        x = new HatNet();
        refused(x.without(0), NO_SUCH);
        refused(x.without(1), NO_SUCH);
    }

    @Sentence(of = "Promise 21", says = "In how many COLOURINGS all PLAYERS of a SET are RIGHT")
    void allOfASetRight() {
        game(MIXED);
        int[] due = {0, 3, 2, 1, 6, 3, 2, 1};
        for (int set = 1; set < 8; set++) {
            fine(x.together(set), due[set]);
        }
    }

    @Sentence(of = "Promise 21", says = "(2).")
    void togetherSetsThatCantBe() {
        game(MIXED);
        bounds(NO_SUCH, 1, 7, x::together);
        refused(x.together(9), NO_SUCH);
        x = new HatNet();
        refused(x.together(0), NO_SUCH);
        refused(x.together(1), NO_SUCH);
    }

    @Sentence(of = "Promise 22", says = "What 0: how many PLAYERS are RIGHT in one COLOURING at the most,")
    void mostRightInOne() {
        game(MIXED);
        fine(x.crowd(0), 3);
        game(WON);
        fine(x.crowd(0), 1);
        game("players 6;");
        fine(x.crowd(0), 6);
    }

    @Sentence(of = "Promise 22", says = "1: the first COLOURING with so many,")
    void firstWithSoMany() {
        game(MIXED);
        fine(x.crowd(1), 5);
        game(WON);
        fine(x.crowd(1), 0);
        game("players 2;hats 1 4;guess 0 fixed 1;guess 1 fixed 3;");
        fine(x.crowd(1), 7);
        // Both are RIGHT in 0 1 and in 1 0.
        game("players 2;link 0 1;guess 0 next 1;guess 1 next 0;");
        fine(x.crowd(1), 1);
        fine(x.crowd(2), 2);
    }

    @Sentence(of = "Promise 22", says = "2: how many COLOURINGS have so many")
    void howManyHaveSoMany() {
        game(MIXED);
        fine(x.crowd(2), 1);
        game(WON);
        fine(x.crowd(2), 4);
        game("players 6;");
        fine(x.crowd(2), 1);
    }

    @Sentence(of = "Promise 22", says = "(1;")
    void crowdOfNothingElse() {
        game(MIXED);
        bounds(BAD_NUMBER, 0, 2, x::crowd);
        x = new HatNet();
        refused(x.crowd(3), BAD_NUMBER);
        refused(x.crowd(-1), BAD_NUMBER);
    }

    @Sentence(of = "Promise 22", says = "5: no PLAYERS).")
    void crowdOfNobody() {
        for (int what = 0; what < 3; what++) {
            refused(x.crowd(what), THERE_IS_NONE);
        }
    }

    @Sentence(of = "Promise 23", says = "How many COLOURINGS are LOST, if each PLAYER may guess twice:")
    void lostIfEachGuessesTwice() {
        fine(x.twice(), 0);
        game("players 2;hats 0 4;hats 1 4;sees 0 1;guess 0 fixed 1;guess 1 fixed 1;");
        fine(x.twice(), 4);
        game("players 1;hats 0 1;");
        fine(x.twice(), 0);
        game("players 3;");
        fine(x.twice(), 0);
    }

    @Sentence(of = "Promise 23", says = "also the COLOUR 1 above its guess, modulo how many it has.")
    void theSecondGuessGoesRound() {
        game("players 1;hats 0 4;guess 0 fixed 3;");
        fine(x.twice(), 2);
        // RIGHT with 2 or 0 of 3, and with 3 or 0 of 4: LOST are 1 with 1, 2.
        game("players 2;hats 0 3;hats 1 4;guess 0 fixed 2;guess 1 fixed 3;");
        fine(x.twice(), 2);
        // By what it sees: 3 and 0, or 0 and 1, beside one who is RIGHT with 0, 1.
        game("players 2;hats 0 4;hats 1 3;sees 0 1;guess 0 table 0 0 3;");
        fine(x.twice(), 2);
    }

    // ---- sight

    /** With sight of 1 shown as 0 the first one guesses 1 more than 2 has, and wins with it; else what 2 has. */
    private static final String HANGING = "players 3;link 0 2;sees 0 1;guess 0 table 1 0 0 1;guess 2 same 0;";

    @Sentence(of = "Promise 24", says = "How many COLOURINGS are LOST, if a PLAYER saw another one no more (as see() has it "
        + "then)")
    void lostIfOneIsBlinded() {
        game(HANGING);
        fine(x.lost(NONE), 2);
        int[][] due = {{0, 1, 0}, {0, 2, 1}, {2, 0, 1}};
        for (int[] one : due) {
            fine(x.blinded(one[0], one[1]), one[2]);
            game(HANGING);
            x.see(one[0], one[1], false);
            fine(x.lost(NONE), one[2]);
            game(HANGING);
        }
        fine(x.many(2), 3);
        fine(x.lost(NONE), 2);
        // It guesses 0, and is not RIGHT where it was; LOST are 1 0 and 2 0. With 1 guessed: 0 0 and 2 0.
        game("players 2;hats 0 3;sees 0 1;guess 0 same 1;guess 1 fixed 1;");
        fine(x.blinded(0, 1), 2);
        game("players 2;hats 0 3;sees 0 1;guess 0 fixed 1;guess 1 fixed 1;");
        fine(x.blinded(0, 1), 2);
        // With COLOUR 0 of 1 it guesses otherwise than 2 has, who guesses what it has.
        game("players 3;hats 1 3;sees 0 1;sees 0 2;sees 2 0;guess 0 table 1 0 0 1 0 1;guess 2 same 0;");
        fine(x.blinded(0, 1), 0);
        game("players 3;hats 2 3;sees 0 1;sees 0 2;sees 1 0;guess 0 table 1 0 0 0 1 1;guess 1 same 0;");
        fine(x.blinded(0, 2), 0);
    }

    @Sentence(of = "Promise 24", says = "(2;")
    void blindedNobody() {
        game(HANGING);
        bounds(NO_SUCH, 0, 2, p -> x.blinded(p, 2));
        bounds(NO_SUCH, 0, 2, q -> x.blinded(0, q));
        refused(x.blinded(3, 3), NO_SUCH);
        x = new HatNet();
        refused(x.blinded(0, 1), NO_SUCH);
    }

    @Sentence(of = "Promise 24", says = "4: one and itself;")
    void blindedToItself() {
        game(HANGING);
        for (int p = 0; p < 3; p++) {
            refused(x.blinded(p, p), SO_ALREADY);
        }
    }

    @Sentence(of = "Promise 24", says = "; 7).")
    void blindedToOneNotSeen() {
        game(HANGING);
        refused(x.blinded(1, 0), NOT_SEEN);
        refused(x.blinded(2, 1), NOT_SEEN);
    }

    @Sentence(of = "Promise 25", says = "The pair of which the first one sees the other, 6 times the first and the other "
        + "one, without which sight (as blinded()) most COLOURINGS are LOST,")
    void weakestPair() {
        game("players 3;sees 2 1;");
        fine(x.weakest(false), 13);
        game("players 6;sees 0 1;sees 5 4;sees 4 5;guess 5 same 4;guess 4 next 5;");
        // Without one of the two who win some are LOST; 0 takes no part.
        fine(x.weakest(false), 29);
        game(HANGING);
        fine(x.weakest(false), 2);
    }

    @Sentence(of = "Promise 25", says = "of several the least;")
    void weakestOfSeveralTheLeast() {
        game(WON);
        fine(x.weakest(false), 1);
        game("players 6;sees 5 4;sees 3 5;sees 4 0;");
        fine(x.weakest(false), 6 * 3 + 5);
    }

    @Sentence(of = "Promise 25", says = "or (lost) how many are")
    void lostWithoutTheWeakest() {
        game(HANGING);
        fine(x.weakest(true), 1);
        game(WON);
        fine(x.weakest(true), 1);
        // Sight that nobody needs: 0 are LOST with it, and without it.
        game("players 2;hats 0 1;sees 0 1;");
        fine(x.weakest(true), 0);
        fine(x.weakest(false), 1);
    }

    @Sentence(of = "Promise 25", says = "(5: nobody sees anybody).")
    void weakestOfNone() {
        refused(x.weakest(false), THERE_IS_NONE);
        refused(x.weakest(true), THERE_IS_NONE);
        game(TWO_LOST);
        refused(x.weakest(false), THERE_IS_NONE);
        refused(x.weakest(true), THERE_IS_NONE);
        game(WON);
        x.see(0, 1, false);
        fine(x.weakest(false), 6);
        x.see(1, 0, false);
        refused(x.weakest(false), THERE_IS_NONE);
    }

    @Sentence(of = "Promise 26", says = "The SET of fewest PLAYERS by whom alone no more COLOURINGS are LOST than by all,")
    void fewestNeeded() {
        game(MIXED);
        fine(x.needed(), 4);
        game(WON);
        fine(x.needed(), 3);
        // 0 and 1 win, and so does 2 alone.
        game("players 3;hats 2 1;link 0 1;guess 0 same 1;guess 1 next 0;");
        fine(x.needed(), 4);
        // All of six are needed to lose but one.
        game("players 6;");
        fine(x.needed(), 63);
        game("players 1;hats 0 4;");
        fine(x.needed(), 1);
        game("players 6;hats 0 1;");
        fine(x.needed(), 1);
        game("players 6;hats 5 1;");
        fine(x.needed(), 32);
    }

    @Sentence(of = "Promise 26", says = "of several the least as bits")
    void neededOfSeveralTheLeast() {
        game("players 4;hats 1 1;hats 3 1;");
        fine(x.needed(), 2);
        // Two pairs win, each by itself.
        game("players 4;link 0 3;link 1 2;guess 0 same 3;guess 3 next 0;guess 1 same 2;guess 2 next 1;");
        fine(x.needed(), 6);
    }

    @Sentence(of = "Promise 26", says = "(5: no PLAYERS).")
    void neededOfNobody() {
        refused(x.needed(), THERE_IS_NONE);
        game(WON);
        x.load(0);
        refused(x.needed(), THERE_IS_NONE);
    }

    // ---- LOST ones

    @Sentence(of = "Promise 27", says = "How many COLOURINGS in which a PLAYER has a COLOUR are LOST")
    void lostWithAColour() {
        game(TWO_LOST);
        int[][] due = {{1, 0, 1}, {2, 0}, {0, 2}};
        for (int p = 0; p < 3; p++) {
            for (int c = 0; c < due[p].length; c++) {
                fine(x.known(p, c), due[p][c]);
            }
        }
        game("players 2;guess 0 fixed 1;guess 1 fixed 1;");
        fine(x.known(0, 0), 1);
        fine(x.known(1, 0), 1);
        fine(x.known(0, 1), 0);
    }

    @Sentence(of = "Promise 27", says = "(2).")
    void knownOfNone() {
        game(TWO_LOST);
        bounds(NO_SUCH, 0, 2, p -> x.known(p, 0));
        bounds(NO_SUCH, 0, 2, c -> x.known(0, c));
        bounds(NO_SUCH, 0, 1, c -> x.known(1, c));
        x = new HatNet();
        refused(x.known(0, 0), NO_SUCH);
    }

    @Sentence(of = "Promise 28", says = "How many PLAYERS must have other hats, so that a COLOURING is a LOST one (0: it is; "
        + "what 0),")
    void howFarTheNearestLostIs() {
        game(TWO_LOST);
        // From 0 0 0, 0 0 1 and so on, to 0 0 1 or 2 0 1.
        int[] due = {1, 0, 2, 1, 2, 1, 3, 2, 1, 0, 2, 1};
        for (int c = 0; c < 12; c++) {
            fine(x.nearest(c, 0), due[c]);
        }
        game("players 6;");
        fine(x.nearest(0, 0), 6);
        fine(x.nearest(63, 0), 0);
    }

    @Sentence(of = "Promise 28", says = "the first LOST one (by numbers) with so few others (1)")
    void theFirstOfTheNearest() {
        game(TWO_LOST);
        int[] due = {1, 1, 1, 1, 1, 1, 1, 1, 9, 9, 9, 9};
        for (int c = 0; c < 12; c++) {
            fine(x.nearest(c, 1), due[c]);
        }
        game("players 6;");
        fine(x.nearest(0, 1), 63);
        game("players 2;guess 0 fixed 1;guess 1 fixed 1;");
        fine(x.nearest(0, 1), 0);
        fine(x.nearest(3, 1), 0);
    }

    @Sentence(of = "Promise 28", says = "(1) (1;")
    void nearestOfNothingElse() {
        game(TWO_LOST);
        bounds(BAD_NUMBER, 0, 1, what -> x.nearest(0, what));
        refused(x.nearest(12, 2), BAD_NUMBER);
    }

    @Sentence(of = "Promise 28", says = "; 2;")
    void nearestOfNoColouring() {
        game(TWO_LOST);
        bounds(NO_SUCH, 0, 11, c -> x.nearest(c, 0));
        bounds(NO_SUCH, 0, 11, c -> x.nearest(c, 1));
        game(WON);
        refused(x.nearest(4, 0), NO_SUCH);
        x = new HatNet();
        refused(x.nearest(0, 0), NO_SUCH);
    }

    @Sentence(of = "Promise 28", says = "5: none is LOST).")
    void nearestWhereNoneIsLost() {
        game(WON);
        for (int c = 0; c < 4; c++) {
            refused(x.nearest(c, 0), THERE_IS_NONE);
            refused(x.nearest(c, 1), THERE_IS_NONE);
        }
    }

    @Sentence(of = "Promise 29", says = "In how many COLOURINGS m PLAYERS or more (0 to 6)")
    void atLeastFromNoneToSix() {
        game(MIXED);
        int[] due = {6, 6, 4, 1, 0, 0, 0};
        for (int m = 0; m <= 6; m++) {
            fine(x.atLeast(m), due[m]);
        }
        game("players 6;");
        int[] six = {64, 63, 57, 42, 22, 7, 1};
        for (int m = 0; m <= 6; m++) {
            fine(x.atLeast(m), six[m]);
        }
        x = new HatNet();
        fine(x.atLeast(0), 0);
        fine(x.atLeast(6), 0);
    }

    @Sentence(of = "Promise 29", says = "are RIGHT (1).")
    void atLeastBeyond() {
        game(MIXED);
        bounds(BAD_NUMBER, 0, 6, x::atLeast);
        x = new HatNet();
        bounds(BAD_NUMBER, 0, 6, x::atLeast);
    }
}
