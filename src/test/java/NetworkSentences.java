/** Promises 43 to 48: RENUMBERINGS, and what is asked of who sees whom. */
final class NetworkSentences extends Sentences {
    private static final String FOUR = "players 4;link 0 1;link 0 2;link 0 3;link 1 2;link 1 3;link 2 3;";
    private static final String CHAIN = "players 6;sees 0 1;sees 1 2;sees 2 3;sees 3 4;sees 4 5;";

    // ---- renumbered

    @Sentence(of = "Promise 43", says = "How many RENUMBERINGS there are (what 0),")
    void howManyRenumberings() {
        fine(x.renumber(0), 1);
        game("players 1;");
        fine(x.renumber(0), 1);
        game("players 6;");
        fine(x.renumber(0), 720);
        game(FOUR);
        fine(x.renumber(0), 24);
        game(CHAIN);
        fine(x.renumber(0), 1);
        game("players 6;link 0 1;link 2 3;link 4 5;hats 4 3;hats 5 3;");
        fine(x.renumber(0), 8 * 2);
    }

    /** Six PLAYERS with a LINK for each two letters, which are their numbers. */
    private void linked(String pairs, int renumberings) {
        StringBuilder text = new StringBuilder("players 6;");
        for (String pair : pairs.split(" ")) {
            text.append("link ").append(pair.charAt(0)).append(' ').append(pair.charAt(1)).append(';');
        }
        game(text.toString());
        fine(x.renumber(0), renumberings);
        fine(x.renumber(1), renumberings);
    }

    @Sentence(of = "Promise 43", says = "How many RENUMBERINGS there")
    void howManyRenumberingsOfSix() {
        // Lines: itself, and the other way round.
        linked("30 05 51 14 42", 2);
        linked("01 12 23 34 45", 2);
        linked("53 31 10 04 42", 2);
        linked("25 54 40 03 31", 2);
        linked("41 13 35 50 02", 2);
        linked("14 42 20 03 35", 2);
        linked("50 03 32 24 41", 2);
        // A ring, two rings of three, these with a LINK from each to one of the other.
        linked("05 52 23 31 14 40", 12);
        linked("03 35 50 12 24 41", 72);
        linked("02 24 40 13 35 51 05 21 43", 12);
        // Three to whom three others are linked, all but three pairs, and three pairs.
        linked("01 02 05 31 32 35 41 42 45", 72);
        linked("01 02 03 05 12 14 15 23 24 34 35 45", 48);
        linked("04 13 25", 48);
        // A wheel.
        linked("01 12 23 34 40 50 51 52 53 54", 10);
        game("players 6;sees 0 3;sees 3 5;sees 5 0;sees 1 2;sees 2 4;sees 4 1;");
        fine(x.renumber(0), 18);
        game("players 6;sees 0 3;sees 3 5;sees 5 1;sees 1 2;sees 2 4;sees 4 0;");
        fine(x.renumber(0), 6);
    }

    @Sentence(of = "Promise 43", says = "how many of them KEEP the TABLES (1)")
    void howManyKeepTheTables() {
        fine(x.renumber(1), 1);
        game("players 6;");
        fine(x.renumber(1), 720);
        x.set(3, 0, 1);
        fine(x.renumber(1), 120);
        x.set(5, 0, 1);
        fine(x.renumber(1), 48);
        fine(x.renumber(0), 720);
        game(FOUR);
        x.set(0, 7, 1);
        fine(x.renumber(1), 6);
        // 0 guesses by 1 alone: of the others only 2 and 3 can change places.
        x.undo();
        x.set(0, 4, 1);
        fine(x.renumber(1), 2);
        // 1 guesses otherwise, if 0 and 2 have 1: these two can change places.
        game("players 3;link 0 1;link 0 2;link 1 2;");
        x.set(1, 3, 1);
        fine(x.renumber(1), 2);
        fine(x.alike(1, 2), 0);
        fine(x.alike(0, 2), 1);
    }

    @Sentence(of = "Promise 43", says = "(1) (1).")
    void renumberOfNothingElse() {
        bounds(BAD_NUMBER, 0, 1, x::renumber);
        game(FOUR);
        bounds(BAD_NUMBER, 0, 1, x::renumber);
    }

    @Sentence(of = "Promise 44", says = "1 if the RENUMBERING by which two unlike PLAYERS change places (all others stay) is "
        + "one and KEEPS the TABLES, else 0")
    void alikeIfTheyCanChangePlaces() {
        game(FOUR);
        for (int code = 0; code < 16; code++) {
            if (code / 4 != code % 4) {
                fine(x.alike(code / 4, code % 4), 1);
            }
        }
        x.set(0, 4, 1);
        fine(x.alike(2, 3), 1);
        fine(x.alike(1, 2), 0);
        fine(x.alike(0, 1), 0);
        // It is no RENUMBERING: of a square, beside each other; with other COLOURS; where others don't stay.
        game("players 4;link 0 1;link 1 2;link 2 3;link 3 0;");
        fine(x.alike(0, 2), 1);
        fine(x.alike(0, 1), 0);
        game("players 3;hats 1 3;");
        fine(x.alike(0, 1), 0);
        fine(x.alike(0, 2), 1);
        game("players 4;sees 0 2;sees 1 3;");
        fine(x.alike(0, 1), 0);
        fine(x.renumber(0), 2);
        game("players 2;sees 0 1;");
        fine(x.alike(0, 1), 0);
        // Another one sees, or is seen by, one of the two alone.
        for (String text : new String[] {"players 3;sees 0 1;", "players 3;sees 1 0;", "players 3;link 2 0;"}) {
            game(text);
            fine(x.alike(1, 2), 0);
            fine(x.renumber(0), text.contains("link") ? 2 : 1);
        }
    }

    @Sentence(of = "Promise 44", says = "(2;")
    void alikeToNobody() {
        game(FOUR);
        bounds(NO_SUCH, 0, 3, p -> x.alike(p, 1));
        bounds(NO_SUCH, 0, 3, q -> x.alike(1, q));
        refused(x.alike(4, 4), NO_SUCH);
        x = new HatNet();
        refused(x.alike(0, 1), NO_SUCH);
    }

    @Sentence(of = "Promise 44", says = "4: one and itself).")
    void alikeToItself() {
        game(FOUR);
        for (int p = 0; p < 4; p++) {
            refused(x.alike(p, p), SO_ALREADY);
        }
    }

    // ---- ways along sight

    @Sentence(of = "Promise 45", says = "How far a PLAYER is from another one, along what one sees")
    void howFarAlongSight() {
        game(CHAIN);
        for (int p = 0; p < 6; p++) {
            for (int q = p; q < 6; q++) {
                fine(x.far(p, q), q - p);
            }
        }
        // The shortest of several ways.
        game("players 6;sees 0 5;sees 5 4;sees 4 3;sees 0 2;sees 2 3;sees 3 0;");
        fine(x.far(0, 3), 2);
        fine(x.far(0, 4), 2);
        fine(x.far(5, 2), 4);
    }

    @Sentence(of = "Promise 45", says = "(0: from itself)")
    void notFarFromItself() {
        game(CHAIN);
        for (int p = 0; p < 6; p++) {
            fine(x.far(p, p), 0);
        }
        game("players 1;");
        fine(x.far(0, 0), 0);
    }

    @Sentence(of = "Promise 45", says = "(2;")
    void farFromNobody() {
        game(CHAIN);
        bounds(NO_SUCH, 0, 5, p -> x.far(p, 5));
        bounds(NO_SUCH, 0, 5, q -> x.far(0, q));
        refused(x.far(6, 6), NO_SUCH);
        x = new HatNet();
        refused(x.far(0, 0), NO_SUCH);
    }

    @Sentence(of = "Promise 45", says = "5: no way).")
    void noWay() {
        game(CHAIN);
        for (int p = 0; p < 6; p++) {
            for (int q = 0; q < p; q++) {
                refused(x.far(p, q), THERE_IS_NONE);
            }
        }
    }

    // ---- shapes

    private void shape(String text, int kind) {
        game(text);
        fine(x.shape(), kind);
    }

    @Sentence(of = "Promise 46", says = "0 none of these,")
    void noShape() {
        shape("players 2;", 0);
        shape("players 2;sees 1 0;", 0);
        shape("players 4;link 0 1;link 1 2;link 2 0;link 0 3;", 0);
        shape("players 4;link 0 1;link 1 2;link 2 3;link 3 0;link 0 2;", 0);
        shape("players 6;", 0);
    }

    @Sentence(of = "Promise 46", says = "1 a TREE,")
    void shapeOfATree() {
        shape("players 1;", 1);
        shape("players 2;link 1 0;", 1);
        shape("players 3;link 0 2;link 2 1;", 1);
        shape("players 6;link 0 3;link 1 3;link 3 4;link 4 2;link 4 5;", 1);
    }

    @Sentence(of = "Promise 46", says = "2 a RING,")
    void shapeOfARing() {
        shape("players 3;link 0 1;link 1 2;link 2 0;", 2);
        shape("players 4;link 0 2;link 2 1;link 1 3;link 3 0;", 2);
        shape("players 6;link 0 1;link 1 2;link 2 3;link 3 4;link 4 5;link 5 0;", 2);
    }

    @Sentence(of = "Promise 46", says = "3 a WHEEL,")
    void shapeOfAWheel() {
        shape("players 5;link 0 1;link 1 3;link 3 4;link 4 0;link 2 0;link 2 1;link 2 3;link 2 4;", 3);
        shape("players 6;link 0 1;link 1 2;link 2 3;link 3 4;link 4 0;link 5 0;link 5 1;link 5 2;link 5 3;link 5 4;", 3);
    }

    private static String cliqueOf(int n) {
        StringBuilder text = new StringBuilder("players " + n + ";");
        for (int q = 1; q < n; q++) {
            for (int p = 0; p < q; p++) {
                text.append("link ").append(p).append(' ').append(q).append(';');
            }
        }
        return text.toString();
    }

    @Sentence(of = "Promise 46", says = "4 a CLIQUE of all with four PLAYERS or more;")
    void shapeOfAClique() {
        int[] due = {1, 1, 2, 4, 4, 4};
        for (int n = 1; n <= 6; n++) {
            shape(cliqueOf(n), due[n - 1]);
        }
        shape(cliqueOf(5) + "hats 0 3;", 4);
        game(cliqueOf(6));
        x.see(5, 4, false);
        fine(x.shape(), 0);
    }

    @Sentence(of = "Promise 46", says = "of several the last one (a CLIQUE of four is 4)")
    void shapeOfSeveralTheLast() {
        shape(FOUR, 4);
        // A WHEEL, too.
        fine(x.hub(), 0);
        // A CLIQUE of three is a RING.
        shape(cliqueOf(3), 2);
    }

    @Sentence(of = "Promise 46", says = "(5: no PLAYERS).")
    void shapeOfNobody() {
        refused(x.shape(), THERE_IS_NONE);
        game(FOUR);
        x.load(0);
        refused(x.shape(), THERE_IS_NONE);
    }

    @Sentence(of = "Promise 47", says = "The HUB of a WHEEL,")
    void hubOfAWheel() {
        for (int hub = 0; hub < 5; hub++) {
            StringBuilder text = new StringBuilder("players 5;");
            for (int i = 1; i < 5; i++) {
                int p = (hub + i) % 5;
                text.append("link ").append(hub).append(' ').append(p).append(';');
                text.append("link ").append(p).append(' ').append((hub + i % 4 + 1) % 5).append(';');
            }
            game(text.toString());
            fine(x.hub(), hub);
        }
    }

    @Sentence(of = "Promise 47", says = "of several the first")
    void hubOfSeveralTheFirst() {
        game(FOUR);
        fine(x.hub(), 0);
    }

    @Sentence(of = "Promise 47", says = "(5: it is none).")
    void hubOfNoWheel() {
        refused(x.hub(), THERE_IS_NONE);
        for (String text : new String[] {"players 1;", "players 2;link 0 1;", cliqueOf(3), cliqueOf(5), cliqueOf(6),
            "players 4;link 0 1;link 0 2;link 0 3;", "players 4;link 0 1;link 0 2;link 0 3;link 1 2;link 2 3;"}) {
            game(text);
            refused(x.hub(), THERE_IS_NONE);
        }
        game(FOUR);
        x.see(2, 3, false);
        refused(x.hub(), THERE_IS_NONE);
    }

    @Sentence(of = "Promise 48", says = "PLAYERS to whom one can come from a PLAYER along LINKS, as bits")
    void partAlongLinks() {
        game("players 6;link 0 5;link 5 3;link 3 1;sees 2 4;sees 1 2;");
        for (int p : new int[] {0, 1, 3, 5}) {
            fine(x.part(p), 1 + 2 + 8 + 32);
        }
        game("players 6;link 0 1;link 1 2;link 2 3;link 3 4;link 4 5;");
        fine(x.part(0), 63);
        fine(x.part(5), 63);
        fine(x.part(2), 63);
    }

    @Sentence(of = "Promise 48", says = "(itself, too)")
    void partOfOneAlone() {
        game("players 6;sees 2 4;sees 4 5;");
        for (int p = 0; p < 6; p++) {
            fine(x.part(p), 1 << p);
        }
    }

    @Sentence(of = "Promise 48", says = "(2).")
    void partOfNobody() {
        game(CHAIN);
        bounds(NO_SUCH, 0, 5, x::part);
        x = new HatNet();
        refused(x.part(0), NO_SUCH);
    }
}
