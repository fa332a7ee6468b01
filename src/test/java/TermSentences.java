/** Terms 2: what the words mean. */
final class TermSentences extends Sentences {
    private static final String TERMS = "Terms 2";

    // ---- COLOURINGS, SITUATIONS, TABLES

    @Sentence(of = TERMS, says = "A COLOURING gives each PLAYER one of its COLOURS, 0 and on; its number: COLOURS as "
        + "digits, PLAYER 0 the highest one, each by how many COLOURS that PLAYER has.")
    void colouringsByDigits() {
        game("players 4;hats 0 2;hats 1 3;hats 2 1;hats 3 4;");
        fine(x.many(1), 24);
        for (int number = 0; number < 24; number++) {
            fine(x.colour(0, number), number / 12);
            fine(x.colour(1, number), number / 4 % 3);
            fine(x.colour(2, number), 0);
            fine(x.colour(3, number), number % 4);
        }
    }

    @Sentence(of = TERMS, says = "A SITUATION of a PLAYER: what it sees, numbered likewise by the PLAYERS that it sees")
    void situationsByDigits() {
        game("players 4;hats 0 2;hats 1 3;hats 2 1;hats 3 4;sees 0 1;sees 0 3;sees 1 0;sees 1 2;sees 3 0;sees 3 1;");
        for (int number = 0; number < 24; number++) {
            fine(x.situation(0, number), number / 4 % 3 * 4 + number % 4);
            fine(x.situation(1, number), number / 12);
            fine(x.situation(3, number), number / 4);
        }
        fine(x.player(0, 3), 12);
        fine(x.player(1, 3), 2);
        fine(x.player(3, 3), 6);
    }

    @Sentence(of = TERMS, says = "(0, if it sees nobody)")
    void whoSeesNobodyHasSituationZero() {
        game("players 2;hats 0 4;sees 1 0;");
        for (int number = 0; number < 8; number++) {
            fine(x.situation(0, number), 0);
        }
        fine(x.player(0, 3), 1);
    }

    @Sentence(of = TERMS, says = "Its TABLE tells for each SITUATION the COLOUR that it guesses.")
    void tableBySituation() {
        game("players 2;hats 0 3;hats 1 4;sees 0 1;guess 0 table 2 0 1 2;guess 1 table 3;");
        int[] due = {2, 0, 1, 2};
        for (int s = 0; s < 4; s++) {
            fine(x.guess(0, s), due[s]);
        }
        fine(x.guess(1, 0), 3);
    }

    @Sentence(of = TERMS, says = "By RULE: sum k: k less all COLOURS that it sees, modulo how many it has itself.")
    void sumGoesRoundBelowZero() {
        // It sees 0 to 3 and 0 to 2, and has 4: 1 less as much as 5.
        game("players 3;hats 0 4;hats 1 4;hats 2 3;link 0 1;link 0 2;guess 0 sum 1;guess 1 sum 99;guess 2 sum 0;");
        same(table(0), "103" + "032" + "321" + "210");
        same(table(1), "3210");
        same(table(2), "0210");
        game("players 2;hats 0 1;hats 1 4;link 0 1;guess 0 sum 3;guess 1 sum 6;");
        same(table(0), "0000");
        same(table(1), "2");
    }

    @Sentence(of = TERMS, says = "same q: the COLOUR of q,")
    void sameGoesRound() {
        game("players 2;hats 0 2;hats 1 4;link 0 1;guess 0 same 1;guess 1 same 0;");
        same(table(0), "0101");
        same(table(1), "01");
        game("players 3;hats 0 3;hats 1 4;hats 2 2;link 0 1;link 0 2;guess 0 same 1;guess 1 same 0;guess 2 same 0;");
        same(table(0), "00112200");
        same(table(1), "012");
        same(table(2), "010");
    }

    @Sentence(of = TERMS, says = "next q: 1 more than that, modulo how many it has.")
    void nextGoesRound() {
        game("players 2;hats 0 2;hats 1 4;link 0 1;guess 0 next 1;guess 1 next 0;");
        same(table(0), "1010");
        same(table(1), "12");
        game("players 3;hats 0 4;hats 1 1;hats 2 4;link 0 1;link 0 2;guess 0 next 2;guess 1 next 0;guess 2 next 0;");
        same(table(0), "1230");
        same(table(1), "0000");
        same(table(2), "1230");
    }

    @Sentence(of = TERMS, says = "fixed c: always c.")
    void fixedIsAlwaysTheSame() {
        game("players 3;hats 0 4;link 0 1;link 0 2;guess 0 fixed 3;guess 1 fixed 1;guess 2 fixed 0;");
        same(table(0), "3333");
        same(table(1), "1111");
        same(table(2), "0000");
    }

    @Sentence(of = TERMS, says = "table: by SITUATIONS, from 0 on.")
    void ruleTableFromSituationZero() {
        game("players 3;hats 0 4;hats 2 3;link 0 1;sees 0 2;guess 0 table 3 2 1 0 0 1;guess 1 table 1 0 0 1;");
        same(table(0), "321001");
        same(table(1), "1001");
    }

    @Sentence(of = TERMS, says = "A PLAYER is RIGHT in a COLOURING, if it guesses its own COLOUR.")
    void rightWithItsOwnColour() {
        game("players 2;hats 1 3;sees 0 1;guess 0 table 0 1 1;guess 1 fixed 2;");
        int[] due = {1, 0, 2, 0, 1, 3};
        for (int number = 0; number < 6; number++) {
            fine(x.right(number), due[number]);
        }
    }

    @Sentence(of = TERMS, says = "A COLOURING is LOST, if nobody is;")
    void lostIfNobodyIsRight() {
        game("players 2;hats 1 3;sees 0 1;guess 0 table 0 1 1;guess 1 fixed 2;");
        fine(x.lost(NONE), 2);
        fine(x.lost(0), 1);
        fine(x.lost(1), 3);
    }

    @Sentence(of = TERMS, says = "the GAME is WON, if none is LOST.")
    void wonIfNoneIsLost() {
        // One that has 2 COLOURS and sees nobody: of two ways none is WON; with 1 COLOUR the one way is.
        game("players 1;");
        fine(x.ways(1), 0);
        game("players 1;hats 0 1;");
        fine(x.ways(1), 1);
        fine(x.lost(NONE), 0);
    }

    @Sentence(of = TERMS, says = "SHARE: of each PLAYER 1 by how many COLOURS it has, all added.")
    void shareOfAll() {
        game("players 4;hats 0 1;hats 1 2;hats 2 3;hats 3 4;");
        fine(x.share(15, 0), 25);
        fine(x.share(15, 1), 12);
    }

    @Sentence(of = TERMS, says = "(Each is RIGHT in just so many: with less than 1 some are LOST.)")
    void eachIsRightInItsShare() {
        game("players 3;hats 0 3;hats 1 4;hats 2 3;link 0 1;link 1 2;link 0 2;");
        for (int seed = 0; seed < 20; seed++) {
            x.shuffle(seed);
            fine(x.together(1), 12);
            fine(x.together(2), 9);
            fine(x.together(4), 12);
            same(x.lost(NONE) >= 36 - 33 ? 1 : 0, 1);
        }
    }

    // ---- CLIQUES, and their TABLES

    @Sentence(of = TERMS, says = "A CLIQUE: PLAYERS of whom each sees each other one")
    void cliqueOfWhomEachSeesEachOther() {
        game("players 4;link 0 1;link 0 2;link 1 2;sees 0 3;sees 1 3;sees 2 3;sees 3 0;sees 3 1;");
        fine(x.clique(), 7);
        refused(x.build(15), NOT_SEEN);
        refused(x.build(12), NOT_SEEN);
        x.see(3, 2, true);
        fine(x.clique(), 15);
    }

    @Sentence(of = TERMS, says = "(one alone is one)")
    void oneAloneIsAClique() {
        game("players 3;hats 1 1;");
        fine(x.clique(), 1);
        fine(x.strongest(), 2);
        fine(x.sure(), 1);
        x.set(2, 0, 1);
        fine(x.build(4), 0);
        fine(x.guess(2, 0), 0);
    }

    @Sentence(of = TERMS, says = "TABLES OF A CLIQUE: let m be the least number that all of their numbers of COLOURS "
        + "divide, a PLAYER's STEP m by its own.")
    void stepsOfTheLeastNumber() {
        // Of 2 and 4 it is 4, the STEPS are 2 and 1: 0 has the numbers 0 and 1, 1 has 2, and nobody 3.
        game("players 2;hats 0 2;hats 1 4;link 0 1;");
        fine(x.build(3), 2);
        same(table(0), "0011");
        same(table(1), "20");
    }

    @Sentence(of = TERMS, says = "The first one (by numbers) has as many numbers as its STEP, from 0 on,")
    void theFirstOneFromZeroOn() {
        // Of 1 and 2 alone: m is 6, the STEPS are 3 and 2, so that 1 has 0, 1, 2, and 2 has 3, 4.
        game("players 3;hats 1 2;hats 2 3;link 1 2;sees 0 1;guess 1 fixed 1;");
        fine(x.build(6), 1);
        same(table(1), "001");
        same(table(2), "20");
        // One alone is the first, and has 0: its own COLOUR times a STEP of 1.
        x.build(4);
        same(table(2), "00");
    }

    @Sentence(of = TERMS, says = "the next one as many from there on, and so on, modulo m.")
    void theNumbersGoRound() {
        // m is 2, all STEPS are 1: the numbers are 0, 1, 0 (2), 1 (3).
        game("players 4;link 0 1;link 0 2;link 0 3;link 1 2;link 1 3;link 2 3;");
        fine(x.build(15), 0);
        same(table(0), "01101001");
        same(table(1), "10010110");
        same(table(2), "01101001");
        same(table(3), "10010110");
        // m is 6, the STEPS are 2, 3, 2: 2 has 5 and 0 (6).
        game("players 3;hats 0 3;hats 1 2;hats 2 3;link 0 1;link 0 2;link 1 2;");
        fine(x.build(7), 0);
        same(table(2), "01" + "20" + "12");
        // With one who has 1 COLOUR, m is 3: 0 has 0, 1, 2, and 1 has 0 (3).
        game("players 2;hats 0 1;hats 1 3;link 0 1;guess 1 fixed 2;");
        fine(x.build(3), 0);
        same(table(1), "0");
    }

    @Sentence(of = TERMS, says = "Each guesses the COLOUR with which all COLOURS of the CLIQUE, each times its PLAYER's "
        + "STEP, added, modulo m, are one of its numbers.")
    void guessesThatAddUp() {
        // m is 12, the STEPS are 6, 4, 3: the numbers are 0 to 5, 6 to 9, and 10, 11, 0.
        game("players 3;hats 0 2;hats 1 3;hats 2 4;link 0 1;link 0 2;link 1 2;");
        fine(x.build(7), 0);
        int[][] numbers = {{0, 5}, {6, 9}, {10, 12}};
        int[] steps = {6, 4, 3};
        for (int number = 0; number < 24; number++) {
            int sum = number / 12 * 6 + number / 4 % 3 * 4 + number % 4 * 3;
            for (int p = 0; p < 3; p++) {
                int others = sum - x.colour(p, number) * steps[p];
                int with = (others + x.guess(p, x.situation(p, number)) * steps[p]) % 12;
                boolean fits = with >= numbers[p][0] && with <= numbers[p][1] || p == 2 && with == 0;
                same(fits ? 1 : 0, 1);
            }
        }
    }

    // ---- BEST

    @Sentence(of = TERMS, says = "BEST of a PLAYER, the others' TABLES as they are:")
    void bestWithTheOthersAsTheyAre() {
        game("players 2;link 0 1;guess 0 fixed 1;guess 1 same 0;");
        fine(x.bestAt(0, 0), 1);
        fine(x.bestAt(0, 1), 0);
        x.set(1, 0, 1);
        x.set(1, 1, 0);
        fine(x.bestAt(0, 0), 0);
        fine(x.bestAt(0, 1), 1);
    }

    @Sentence(of = TERMS, says = "for each SITUATION the COLOUR with which fewest COLOURINGS of that SITUATION are LOST;")
    void bestForEachSituation() {
        // 2 is RIGHT, if 0 and 2 have 0 1, 1 1, or 2 0. So with 0 of 1, who guesses 1, and 0 of 2, still
        // open are 0 and 1 of 0; with 1 of 2 it is 2 alone; with 2 of 2 all three.
        game("players 3;hats 0 3;hats 2 3;sees 0 1;sees 0 2;sees 2 0;guess 1 fixed 1;guess 2 table 1 1 0;");
        fine(x.bestAt(0, 0), 0);
        fine(x.bestAt(0, 1), 2);
        fine(x.bestAt(0, 2), 0);
        fine(x.best(0), 1 + 0 + 2);
        // 0 sees nobody: the other two are RIGHT in all that have 0 of it, and in half of those with 1.
        game("players 3;link 1 2;sees 1 0;sees 2 0;guess 1 table 0 1 0 1;guess 2 table 1 0 0 1;");
        fine(x.lost(NONE), 2);
        fine(x.bestAt(0, 0), 1);
        fine(x.best(0), 0);
    }

    @Sentence(of = TERMS, says = "of several the least one. A RENUMBERING")
    void bestOfSeveralTheLeast() {
        game("players 2;hats 0 4;hats 1 3;link 0 1;guess 0 fixed 3;guess 1 fixed 2;");
        // Shown 0 or 1 each COLOUR saves one, shown 2 nothing is LOST with any.
        for (int s = 0; s < 3; s++) {
            fine(x.bestAt(0, s), 0);
        }
        fine(x.take(0), 3);
        same(table(0), "000");
        // Shown 0, nothing is LOST with any now; shown others, each COLOUR saves one.
        for (int s = 0; s < 4; s++) {
            fine(x.bestAt(1, s), 0);
        }
    }

    // ---- RENUMBERINGS

    @Sentence(of = TERMS, says = "A RENUMBERING: each PLAYER is another one (or itself), each another one,")
    void eachIsAnotherOneOrItself() {
        int all = 1;
        for (int n = 1; n <= 6; n++) {
            all *= n;
            game("players " + n + ";");
            fine(x.renumber(0), all);
        }
    }

    @Sentence(of = TERMS, says = "so that who sees whom,")
    void whoSeesWhomIsAsItWas() {
        game("players 4;sees 0 1;sees 1 2;sees 2 3;");
        fine(x.renumber(0), 1);
        game("players 4;sees 0 1;sees 1 2;sees 2 3;sees 3 0;");
        fine(x.renumber(0), 4);
        game("players 4;link 0 1;link 1 2;link 2 3;link 3 0;");
        fine(x.renumber(0), 8);
        game("players 4;sees 0 1;sees 0 2;sees 0 3;");
        fine(x.renumber(0), 6);
    }

    @Sentence(of = TERMS, says = "and how many COLOURS each has, is as it was.")
    void howManyColoursIsAsItWas() {
        game("players 4;hats 2 3;hats 3 3;");
        fine(x.renumber(0), 4);
        game("players 4;hats 0 1;hats 2 3;hats 3 4;");
        fine(x.renumber(0), 1);
        fine(x.alike(0, 1), 0);
    }

    @Sentence(of = TERMS, says = "It KEEPS the TABLES, if, COLOURS and guesses carried along with PLAYERS, each guesses "
        + "as it did.")
    void keepsTheTables() {
        // Each guesses what the next one has: round it goes, but not the other way.
        game("players 3;hats 0 3;hats 1 3;hats 2 3;link 0 1;link 0 2;link 1 2;"
            + "guess 0 same 1;guess 1 same 2;guess 2 same 0;");
        fine(x.renumber(0), 6);
        fine(x.renumber(1), 3);
        fine(x.alike(0, 1), 0);
        // Two who guess what the other one has; with one entry another one they are not alike.
        game("players 2;hats 0 3;hats 1 3;link 0 1;guess 0 same 1;guess 1 same 0;");
        fine(x.renumber(1), 2);
        fine(x.alike(0, 1), 1);
        x.set(1, 2, 0);
        fine(x.renumber(1), 1);
        fine(x.alike(0, 1), 0);
    }

    // ---- TREE, RING, WHEEL

    private void shape(String text, int kind) {
        game(text);
        fine(x.shape(), kind);
    }

    @Sentence(of = TERMS, says = "A TREE, RING, WHEEL are asked of LINKS (both see each other), where no PLAYER sees one "
        + "that does not see it:")
    void notWhereOneIsSeenOneWayAlone() {
        shape("players 3;link 0 1;sees 1 2;", 0);
        shape("players 3;link 0 1;link 1 2;sees 0 2;", 0);
        shape("players 4;link 0 1;link 1 2;link 2 3;link 3 0;sees 0 2;", 0);
        shape("players 5;link 0 1;link 1 2;link 2 3;link 3 0;link 4 0;link 4 1;link 4 2;link 4 3;sees 1 3;", 0);
        refused(x.hub(), THERE_IS_NONE);
        shape("players 3;sees 0 1;sees 1 2;sees 2 0;", 0);
    }

    @Sentence(of = TERMS, says = "TREE: from each PLAYER to each other one there is one way along LINKS;")
    void treeHasOneWay() {
        shape("players 1;", 1);
        shape("players 2;link 0 1;", 1);
        shape("players 6;link 5 0;link 5 1;link 5 2;link 5 3;link 5 4;", 1);
        shape("players 6;link 0 1;link 1 2;link 2 3;link 3 4;link 4 5;", 1);
        // No way, and two ways.
        shape("players 2;", 0);
        shape("players 4;link 0 1;link 2 3;", 0);
        shape("players 4;link 0 1;link 1 2;link 2 0;", 0);
        shape("players 4;link 0 1;link 1 2;link 2 0;link 2 3;", 0);
    }

    @Sentence(of = TERMS, says = "RING: three PLAYERS or more,")
    void ringOfThreeOrMore() {
        shape("players 2;link 0 1;", 1);
        shape("players 3;link 0 1;link 1 2;link 2 0;", 2);
        shape("players 4;link 0 1;link 1 2;link 2 3;link 3 0;", 2);
        shape("players 6;link 0 5;link 5 2;link 2 3;link 3 1;link 1 4;link 4 0;", 2);
    }

    @Sentence(of = TERMS, says = "each with two LINKS, one way round through all;")
    void ringGoesRoundThroughAll() {
        shape("players 6;link 0 1;link 1 2;link 2 0;link 3 4;link 4 5;link 5 3;", 0);
        shape("players 4;link 0 1;link 1 2;link 2 0;", 0);
        shape("players 4;link 0 1;link 1 2;link 2 3;link 3 0;link 0 2;", 0);
        shape("players 5;link 0 1;link 0 2;link 1 2;link 0 3;link 0 4;link 3 4;", 0);
    }

    @Sentence(of = TERMS, says = "WHEEL: a HUB with LINKS to all others, who are a RING without it.")
    void wheelIsARingAndItsHub() {
        shape("players 5;link 0 1;link 1 2;link 2 3;link 3 0;link 4 0;link 4 1;link 4 2;link 4 3;", 3);
        fine(x.hub(), 4);
        shape("players 6;link 1 2;link 2 3;link 3 4;link 4 5;link 5 1;link 0 1;link 0 2;link 0 3;link 0 4;link 0 5;", 3);
        fine(x.hub(), 0);
        // The hub misses one; the others are no ring, or two rings with one in common.
        shape("players 5;link 0 1;link 1 2;link 2 3;link 3 0;link 4 0;link 4 1;link 4 2;", 0);
        shape("players 5;link 0 1;link 1 2;link 2 3;link 4 0;link 4 1;link 4 2;link 4 3;", 0);
        shape("players 6;link 0 1;link 0 2;link 1 2;link 0 3;link 0 4;link 3 4;link 5 0;link 5 1;link 5 2;"
            + "link 5 3;link 5 4;", 0);
        shape("players 3;link 0 1;link 1 2;link 2 0;", 2);
        refused(x.hub(), THERE_IS_NONE);
    }

    // ---- DRAWN, ACYCLIC, ACTS

    @Sentence(of = TERMS, says = "DRAWN by a seed s: x becomes x times 6364136223846793005 and 1442695040888963407 (64 "
        + "bits, the overflow falls off; x is s at first);")
    void drawnWithOverflow() {
        game("players 2;hats 0 4;hats 1 4;link 0 1;");
        for (int seed : new int[] {0, 1, 999999999}) {
            x.shuffle(seed);
            java.math.BigInteger all = java.math.BigInteger.valueOf(seed);
            for (int p = 0; p < 2; p++) {
                for (int s = 0; s < 4; s++) {
                    all = all.multiply(new java.math.BigInteger("6364136223846793005"))
                        .add(new java.math.BigInteger("1442695040888963407"))
                        .mod(java.math.BigInteger.ONE.shiftLeft(64));
                    fine(x.guess(p, s), all.shiftRight(33).mod(java.math.BigInteger.valueOf(4)).intValue());
                }
            }
        }
    }

    @Sentence(of = TERMS, says = "a draw of m is its bits from 33 on, without sign, modulo m.")
    void drawnWithoutSign() {
        // Of these seeds some bring x to a highest bit of 1, where a sign would tell another COLOUR.
        game("players 1;hats 0 3;");
        boolean high = false;
        for (int seed = 0; seed < 40; seed++) {
            long first = seed * 6364136223846793005L + 1442695040888963407L;
            high |= (first >> 33) % 3 != (first >>> 33) % 3;
            x.shuffle(seed);
            fine(x.guess(0, 0), (int) ((first >>> 33) % 3));
        }
        same(high ? 1 : 0, 1);
    }

    @Sentence(of = TERMS, says = "All TABLES are DRAWN: PLAYER by PLAYER, SITUATION by SITUATION a draw of how many "
        + "COLOURS it has.")
    void drawnOneByOne() {
        // Who has but one COLOUR takes a draw, too.
        game("players 4;hats 0 3;hats 1 1;hats 2 4;link 0 1;sees 0 3;sees 1 2;");
        x.shuffle(77);
        int[] colours = {3, 1, 4, 2};
        int[] situations = {2, 12, 1, 1};
        long drawn = 77;
        for (int p = 0; p < 4; p++) {
            fine(x.player(p, 3), situations[p]);
            for (int s = 0; s < situations[p]; s++) {
                drawn = drawn * 6364136223846793005L + 1442695040888963407L;
                fine(x.guess(p, s), (int) ((drawn >>> 33) % colours[p]));
            }
        }
    }

    @Sentence(of = TERMS, says = "It is ACYCLIC, if no PLAYER is seen by one whom it sees,")
    void notAcyclicWithALink() {
        game("players 2;sees 0 1;");
        fine(x.acyclic(), 1);
        game("players 2;link 0 1;");
        fine(x.acyclic(), 0);
        game("players 6;link 4 5;");
        fine(x.acyclic(), 0);
    }

    @Sentence(of = TERMS, says = "or who is seen by one whom it sees, and so on, round to itself.")
    void notAcyclicAllTheWayRound() {
        StringBuilder chain = new StringBuilder("players 6;");
        for (int n = 1; n < 6; n++) {
            chain.append("sees ").append(n).append(' ').append(n - 1).append(';');
            game(chain.toString());
            fine(x.acyclic(), 1);
            game(chain + "sees 0 " + n + ";");
            fine(x.acyclic(), 0);
        }
        // Two ways to the same one are no way round.
        game("players 4;sees 0 1;sees 0 2;sees 1 3;sees 2 3;sees 0 3;");
        fine(x.acyclic(), 1);
    }

    @Sentence(of = TERMS, says = "ACTS: set(), take(), better(), build(), rename(), see(), shuffle().")
    void eachActCanBeUndone() {
        String text = "players 3;hats 0 3;link 0 1;link 1 2;guess 0 same 1;guess 1 same 0;guess 2 fixed 1;";
        for (int act = 0; act < 8; act++) {
            game(text);
            String before = printed();
            switch (act) {
                case 0 -> x.set(0, 0, 2);
                case 1 -> x.take(0);
                case 2 -> x.better();
                case 3 -> x.build(6);
                case 4 -> x.rename(0, 0, 2);
                case 5 -> x.see(0, 2, true);
                case 6 -> x.see(0, 1, false);
                default -> x.shuffle(3);
            }
            same(x.status(), 0);
            same(printed().equals(before) ? 1 : 0, 0);
            fine(x.many(4), 1);
            fine(x.undo(), 0);
            same(printed(), before);
        }
        // Others are no ACTS.
        game(text);
        x.blinded(0, 1);
        x.best(0);
        x.search(0, 3, 0);
        x.renumber(1);
        x.print();
        fine(x.many(4), 0);
    }

    @Sentence(of = TERMS, says = "UNDO: the latest one not undone yet goes back;")
    void theLatestOneGoesBack() {
        game("players 1;hats 0 4;");
        x.set(0, 0, 1);
        x.set(0, 0, 2);
        fine(x.undo(), 1);
        fine(x.guess(0, 0), 1);
        x.set(0, 0, 3);
        fine(x.undo(), 1);
        fine(x.guess(0, 0), 1);
        fine(x.undo(), 0);
        fine(x.guess(0, 0), 0);
    }

    @Sentence(of = TERMS, says = "6 are kept;")
    void sixAreKept() {
        game("players 1;hats 0 4;");
        for (int i = 1; i <= 20; i++) {
            x.set(0, 0, i % 4);
            fine(x.many(4), Math.min(i, 6));
        }
        for (int left = 5; left >= 0; left--) {
            fine(x.undo(), left);
            fine(x.guess(0, 0), (14 + left) % 4);
        }
        refused(x.undo(), THERE_IS_NONE);
        fine(x.guess(0, 0), 14 % 4);
        // Undone ones make place again.
        x.set(0, 0, 1);
        fine(x.many(4), 1);
    }

    @Sentence(of = TERMS, says = "load() forgets them.")
    void loadForgetsActs() {
        game("players 1;");
        x.shuffle(1);
        x.shuffle(2);
        loads("players 1;", 1);
        fine(x.many(4), 0);
        refused(x.undo(), THERE_IS_NONE);
        x.shuffle(1);
        loads("", 0);
        fine(x.many(4), 0);
        refused(x.undo(), THERE_IS_NONE);
        fine(x.many(0), 0);
    }
}
