/** Promises 1 to 14: the object, its tape, the counts, and the tables. */
final class TableSentences extends Sentences {
    /** 0 has 2 COLOURS and sees 1 and 2, 1 has 3 and sees 2, 2 has 4 and sees nobody. */
    private static final String GAME = "players 3;hats 0 2;hats 1 3;hats 2 4;sees 0 1;sees 0 2;sees 1 2;"
        + "guess 0 table 0 0 0 0 0 0 0 0 1 1 1 1;guess 1 table 2 0 2 2;guess 2 fixed 3;";

    // ---- a new object, its STATUS, its tape

    @Sentence(of = "Promise 1", says = "No PLAYERS;")
    void newObjectHasNoPlayers() {
        fine(x.many(0), 0);
        fine(x.many(1), 0);
        refused(x.player(0, 0), NO_SUCH);
        x = new HatNet();
        refused(x.shape(), THERE_IS_NONE);
    }

    @Sentence(of = "Promise 1", says = "STATUS 0.")
    void newObjectHasStatusZero() {
        same(x.status(), 0);
        x.feed(0, 0, 0, 0, 0);
        x.fault(0);
        same(x.status(), 0);
    }

    @Sentence(of = "Promise 2", says = "STATUS of the latest call that has one.")
    void statusOfTheLatestCall() {
        x.many(-1);
        same(x.status(), BAD_NUMBER);
        same(x.status(), BAD_NUMBER);
        x.feed(1, 2, 3, 4, 5);
        x.fault(0);
        x.fault(-1);
        same(x.status(), BAD_NUMBER);
        x.right(0);
        same(x.status(), NO_SUCH);
        x.load(20);
        same(x.status(), FAULTY);
        x.fault(0);
        same(x.status(), FAULTY);
        x.many(0);
        same(x.status(), 0);
    }

    @Sentence(of = "Promise 3", says = "Twenty bytes come behind those on the tape,")
    void bytesComeBehindThoseOnTheTape() {
        tape("players 3;          ");
        tape("hats 2 4;           ");
        tape("link 0 2;           ");
        fine(x.load(60), 3);
        fine(x.player(2, 0), 4);
        fine(x.many(3), 1);
        // The twentieth byte of the last int is the last one.
        x = new HatNet();
        tape("players 3;  hats 2 4");
        tape(";");
        fine(x.load(21), 3);
    }

    @Sentence(of = "Promise 3", says = "the highest of each int first:")
    void theHighestByteFirst() {
        same(x.feed(0x706c6179, 0x65727320, 0x343b6869, 0x6174733b, 0x0), 20);
        fine(x.load(10), 4);
        // Bytes above 127 are no blanks, and stay where they are.
        same(x.feed(0x706c6179, 0x65727320, 0x80343b20, 0x20202020, 0x20202020), 20);
        refused(x.load(20), FAULTY);
        same(x.fault(0), 1);
        same(x.fault(1), 8);
        same(x.feed(0x706c6179, 0x65727320, 0x343b20ff, 0xffffffff, 0xffffffff), 20);
        refused(x.load(20), FAULTY);
        same(x.fault(1), 11);
    }

    @Sentence(of = "Promise 3", says = "how many it has;")
    void howManyTheTapeHas() {
        same(x.feed(0, 0, 0, 0, 0), 20);
        same(x.feed(MIN, MAX, -1, 1, 0), 40);
        x.load(0);
        same(x.feed(0, 0, 0, 0, 0), 20);
    }

    @Sentence(of = "Promise 3", says = "NONE if there would be more than 600.")
    void noMoreThan600OnTheTape() {
        for (int i = 1; i <= 30; i++) {
            same(x.feed(0x20202020, 0x20202020, 0x20202020, 0x20202020, 0x20202020), 20 * i);
        }
        same(x.feed(1, 1, 1, 1, 1), NONE);
        same(x.feed(1, 1, 1, 1, 1), NONE);
        refused(x.load(601), BAD_NUMBER);
        fine(x.load(600), 0);
        same(x.feed(1, 1, 1, 1, 1), 20);
    }

    @Sentence(of = "Promise 4", says = "The first n bytes of the tape")
    void theFirstBytesOfTheTape() {
        tape("players 2;link 0 1;players 3;");
        fine(x.load(10), 2);
        fine(x.many(3), 0);
        tape("players 2;link 0 1;players 3;");
        fine(x.load(19), 2);
        fine(x.many(3), 1);
        tape("players 2;link 0 1;players 3;");
        fine(x.load(0), 0);
    }

    @Sentence(of = "Promise 4", says = "(which is empty then, also with 9)")
    void theTapeIsEmptyThen() {
        tape("players 2;players 3;");
        fine(x.load(10), 2);
        refused(x.load(1), BAD_NUMBER);
        same(x.feed(0, 0, 0, 0, 0), 20);
        refused(x.load(1), FAULTY);
        refused(x.load(1), BAD_NUMBER);
        fine(x.load(0), 0);
        same(x.feed(0, 0, 0, 0, 0), 20);
        refused(x.load(21), BAD_NUMBER);
        same(x.feed(0, 0, 0, 0, 0), 40);
    }

    @Sentence(of = "Promise 4", says = "are a GAME: how many PLAYERS")
    void howManyPlayersAreLoaded() {
        for (int n = 1; n <= 6; n++) {
            fine(Check.load(x, "players " + n + ";"), n);
            fine(x.many(0), n);
        }
        fine(x.load(0), 0);
        fine(x.many(0), 0);
    }

    @Sentence(of = "Promise 4", says = "(1: n below 0,")
    void loadBelowZero() {
        tape("players 1;");
        refused(x.load(-1), BAD_NUMBER);
        refused(x.load(MIN), BAD_NUMBER);
        fine(x.load(10), 1);
        fine(x.load(0), 0);
    }

    @Sentence(of = "Promise 4", says = "above what the tape has;")
    void loadAboveWhatTheTapeHas() {
        refused(x.load(1), BAD_NUMBER);
        tape("players 1;          ");
        refused(x.load(21), BAD_NUMBER);
        refused(x.load(MAX), BAD_NUMBER);
        fine(x.load(20), 1);
    }

    @Sentence(of = "Promise 4", says = "; 9).")
    void loadOfAFault() {
        game(GAME);
        refused(Check.load(x, "players 7;"), FAULTY);
        fine(x.many(0), 3);
        fine(x.guess(2, 0), 3);
    }

    @Sentence(of = "Promise 5", says = "Of the latest load() with STATUS 0 or 9,")
    void faultOfTheLatestLoadThatRead() {
        refused(Check.load(x, "players 9;"), FAULTY);
        refused(x.load(1), BAD_NUMBER);
        refused(x.load(-1), BAD_NUMBER);
        same(x.fault(0), 3);
        same(x.fault(1), 8);
        refused(Check.load(x, "x"), FAULTY);
        same(x.fault(0), 2);
        same(x.fault(1), 0);
        loads("players 1;", 1);
        refused(x.load(1), BAD_NUMBER);
        same(x.fault(0), 0);
    }

    @Sentence(of = "Promise 5", says = "what 0: the FAULT (0 without one),")
    void faultOrZero() {
        refused(Check.load(x, "?"), FAULTY);
        same(x.fault(0), 1);
        loads("players 1;", 1);
        same(x.fault(0), 0);
        refused(Check.load(x, "players 1;hats 0 1;hats 0 1;"), FAULTY);
        same(x.fault(0), 4);
        loads("", 0);
        same(x.fault(0), 0);
    }

    @Sentence(of = "Promise 5", says = "1: its place (NONE without).")
    void placeOrNone() {
        refused(Check.load(x, "?"), FAULTY);
        same(x.fault(1), 0);
        loads("players 1;", 1);
        same(x.fault(1), NONE);
        refused(Check.load(x, "players 1;" + " ".repeat(589) + "?"), FAULTY);
        same(x.fault(1), 599);
        refused(Check.load(x, "players 1" + " ".repeat(591)), FAULTY);
        same(x.fault(1), 600);
    }

    @Sentence(of = "Promise 5", says = "NONE for others,")
    void noFaultForOthers() {
        refused(Check.load(x, "players 9;"), FAULTY);
        for (int what : new int[] {-1, 2, MIN, MAX}) {
            same(x.fault(what), NONE);
        }
    }

    @Sentence(of = "Promise 5", says = "and ahead of any.")
    void noFaultAheadOfAnyLoad() {
        same(x.fault(0), NONE);
        same(x.fault(1), NONE);
        x.load(1);
        same(x.fault(0), NONE);
        same(x.fault(1), NONE);
    }

    // ---- counts

    @Sentence(of = "Promise 6", says = "PLAYERS (what 0),")
    void manyPlayers() {
        fine(x.many(0), 0);
        game("players 6;");
        fine(x.many(0), 6);
    }

    @Sentence(of = "Promise 6", says = "COLOURINGS (1; 0 without PLAYERS),")
    void manyColourings() {
        fine(x.many(1), 0);
        game("players 1;hats 0 1;");
        fine(x.many(1), 1);
        game("players 6;hats 0 4;hats 1 4;hats 2 4;hats 3 4;hats 4 4;hats 5 4;");
        fine(x.many(1), 4096);
        fine(x.load(0), 0);
        fine(x.many(1), 0);
    }

    @Sentence(of = "Promise 6", says = "pairs of which the first one sees the other (2),")
    void manyPairs() {
        fine(x.many(2), 0);
        game("players 4;link 0 1;sees 3 0;");
        fine(x.many(2), 3);
    }

    @Sentence(of = "Promise 6", says = "LINKS (3),")
    void manyLinks() {
        fine(x.many(3), 0);
        game("players 4;link 0 1;sees 3 0;sees 2 3;sees 3 2;");
        fine(x.many(3), 2);
    }

    @Sentence(of = "Promise 6", says = "ACTS that can be undone (4),")
    void manyActs() {
        fine(x.many(4), 0);
        game("players 1;");
        for (int i = 1; i <= 7; i++) {
            x.shuffle(i);
            fine(x.many(4), Math.min(i, 6));
        }
        x.undo();
        fine(x.many(4), 5);
    }

    @Sentence(of = "Promise 6", says = "1 if no PLAYER sees one that does not see it, else 0 (5)")
    void manyTellsOneWaySight() {
        fine(x.many(5), 1);
        game("players 2;");
        fine(x.many(5), 1);
        game("players 3;link 0 1;");
        fine(x.many(5), 1);
        game("players 3;link 0 1;sees 2 1;");
        fine(x.many(5), 0);
        game("players 3;sees 0 1;sees 1 2;sees 2 0;");
        fine(x.many(5), 0);
    }

    @Sentence(of = "Promise 6", says = "(5) (1).")
    void manyOfNothingElse() {
        bounds(BAD_NUMBER, 0, 5, x::many);
        game(GAME);
        bounds(BAD_NUMBER, 0, 5, x::many);
    }

    @Sentence(of = "Promise 7", says = "Of a PLAYER, what 0: how many COLOURS,")
    void playerColours() {
        game("players 5;hats 0 1;hats 1 2;hats 2 3;hats 3 4;");
        int[] due = {1, 2, 3, 4, 2};
        for (int p = 0; p < 5; p++) {
            fine(x.player(p, 0), due[p]);
        }
    }

    @Sentence(of = "Promise 7", says = "1: whom it sees, as bits,")
    void playerSees() {
        game("players 6;sees 0 5;sees 5 0;sees 5 4;sees 3 1;");
        int[] due = {32, 0, 0, 2, 0, 17};
        for (int p = 0; p < 6; p++) {
            fine(x.player(p, 1), due[p]);
        }
    }

    @Sentence(of = "Promise 7", says = "2: by whom it is seen, as bits,")
    void playerIsSeen() {
        game("players 6;sees 0 5;sees 5 0;sees 5 4;sees 3 1;sees 4 1;");
        int[] due = {32, 24, 0, 0, 32, 1};
        for (int p = 0; p < 6; p++) {
            fine(x.player(p, 2), due[p]);
        }
    }

    @Sentence(of = "Promise 7", says = "3: how many SITUATIONS")
    void playerSituations() {
        game("players 4;hats 1 1;hats 2 3;hats 3 4;sees 0 2;sees 0 3;sees 2 1;sees 3 0;sees 3 1;sees 3 2;");
        int[] due = {12, 1, 1, 6};
        for (int p = 0; p < 4; p++) {
            fine(x.player(p, 3), due[p]);
        }
    }

    @Sentence(of = "Promise 7", says = "(1;")
    void playerOfNothingElse() {
        game(GAME);
        bounds(BAD_NUMBER, 0, 3, what -> x.player(2, what));
        refused(x.player(3, 4), BAD_NUMBER);
    }

    @Sentence(of = "Promise 7", says = "; 2).")
    void playerOfNobody() {
        game(GAME);
        for (int what = 0; what < 4; what++) {
            int of = what;
            bounds(NO_SUCH, 0, 2, p -> x.player(p, of));
        }
        x = new HatNet();
        refused(x.player(0, 0), NO_SUCH);
    }

    // ---- tables

    @Sentence(of = "Promise 8", says = "What a PLAYER guesses in a SITUATION")
    void guessInEachSituation() {
        game(GAME);
        same(table(0), "000000001111");
        same(table(1), "2022");
        same(table(2), "3");
    }

    @Sentence(of = "Promise 8", says = "(2).")
    void guessOfNone() {
        game(GAME);
        bounds(NO_SUCH, 0, 2, p -> x.guess(p, 0));
        bounds(NO_SUCH, 0, 11, s -> x.guess(0, s));
        bounds(NO_SUCH, 0, 3, s -> x.guess(1, s));
        bounds(NO_SUCH, 0, 0, s -> x.guess(2, s));
        // Not more than it has any longer.
        x.see(1, 2, false);
        refused(x.guess(1, 1), NO_SUCH);
        x = new HatNet();
        refused(x.guess(0, 0), NO_SUCH);
    }

    @Sentence(of = "Promise 9", says = "The SITUATION of a PLAYER in a COLOURING")
    void situationInAColouring() {
        game(GAME);
        // 0 2 3, and 1 0 0.
        fine(x.situation(0, 11), 11);
        fine(x.situation(1, 11), 3);
        fine(x.situation(2, 11), 0);
        fine(x.situation(0, 12), 0);
        fine(x.situation(1, 12), 0);
        fine(x.situation(0, 23), 11);
    }

    @Sentence(of = "Promise 9", says = "(2).")
    void situationOfNone() {
        game(GAME);
        bounds(NO_SUCH, 0, 2, p -> x.situation(p, 0));
        bounds(NO_SUCH, 0, 23, c -> x.situation(0, c));
        bounds(NO_SUCH, 0, 23, c -> x.situation(2, c));
        x = new HatNet();
        refused(x.situation(0, 0), NO_SUCH);
    }

    @Sentence(of = "Promise 10", says = "The COLOUR of a PLAYER in a COLOURING")
    void colourInAColouring() {
        game(GAME);
        int[][] due = {{0, 0, 0, 0}, {11, 0, 2, 3}, {12, 1, 0, 0}, {23, 1, 2, 3}};
        for (int[] one : due) {
            for (int p = 0; p < 3; p++) {
                fine(x.colour(p, one[0]), one[p + 1]);
            }
        }
    }

    @Sentence(of = "Promise 10", says = "(2).")
    void colourOfNone() {
        game(GAME);
        bounds(NO_SUCH, 0, 2, p -> x.colour(p, 0));
        bounds(NO_SUCH, 0, 23, c -> x.colour(0, c));
        bounds(NO_SUCH, 0, 23, c -> x.colour(2, c));
        x = new HatNet();
        refused(x.colour(0, 0), NO_SUCH);
    }

    @Sentence(of = "Promise 11", says = "In how many SITUATIONS a PLAYER guesses a COLOUR")
    void oftenInItsSituations() {
        game(GAME);
        int[][] due = {{8, 4}, {1, 0, 3}, {0, 0, 0, 1}};
        for (int p = 0; p < 3; p++) {
            for (int c = 0; c < due[p].length; c++) {
                fine(x.often(p, c), due[p][c]);
            }
        }
    }

    @Sentence(of = "Promise 11", says = "(2).")
    void oftenOfNone() {
        game(GAME);
        bounds(NO_SUCH, 0, 2, p -> x.often(p, 0));
        bounds(NO_SUCH, 0, 1, c -> x.often(0, c));
        bounds(NO_SUCH, 0, 2, c -> x.often(1, c));
        bounds(NO_SUCH, 0, 3, c -> x.often(2, c));
        x = new HatNet();
        refused(x.often(0, 0), NO_SUCH);
    }

    @Sentence(of = "Promise 12", says = "1 if what a PLAYER guesses hangs on a PLAYER that it sees, else 0")
    void heedsOrNot() {
        game(GAME);
        fine(x.heeds(0, 1), 1);
        fine(x.heeds(0, 2), 0);
        fine(x.heeds(1, 2), 1);
        // In the last SITUATION alone; and on one who has but one COLOUR nothing hangs.
        game("players 3;hats 1 4;hats 2 1;sees 0 1;sees 0 2;guess 0 table 0 0 0 1;");
        fine(x.heeds(0, 1), 1);
        fine(x.heeds(0, 2), 0);
    }

    @Sentence(of = "Promise 12", says = "(2;")
    void heedsNobody() {
        game(GAME);
        bounds(NO_SUCH, 0, 2, p -> x.heeds(p, 1));
        bounds(NO_SUCH, 0, 2, q -> x.heeds(0, q));
        refused(x.heeds(3, 3), NO_SUCH);
        x = new HatNet();
        refused(x.heeds(0, 1), NO_SUCH);
    }

    @Sentence(of = "Promise 12", says = "4: one and itself;")
    void heedsItself() {
        game(GAME);
        for (int p = 0; p < 3; p++) {
            refused(x.heeds(p, p), SO_ALREADY);
        }
    }

    @Sentence(of = "Promise 12", says = "; 7).")
    void heedsOneNotSeen() {
        game(GAME);
        refused(x.heeds(1, 0), NOT_SEEN);
        refused(x.heeds(2, 1), NOT_SEEN);
        x.see(0, 1, false);
        refused(x.heeds(0, 1), NOT_SEEN);
    }

    @Sentence(of = "Promise 13", says = "On whom what a PLAYER guesses hangs, as bits")
    void heededAsBits() {
        game("players 6;link 0 5;link 0 1;sees 0 3;sees 1 2;"
            + "guess 0 table 0 1 0 1 0 1 0 0;guess 1 same 2;guess 5 fixed 1;");
        // 0 sees 1, 3, 5: its guess is 5's COLOUR, but not if 1 and 3 have 1.
        fine(x.heeded(0), 2 + 8 + 32);
        fine(x.heeded(1), 4);
        fine(x.heeded(5), 0);
        fine(x.heeded(2), 0);
        x.set(0, 7, 1);
        fine(x.heeded(0), 32);
        game("players 2;link 0 1;guess 0 same 1;guess 1 same 0;");
        fine(x.heeded(0), 2);
        fine(x.heeded(1), 1);
    }

    @Sentence(of = "Promise 13", says = "(2).")
    void heededByNobody() {
        game(GAME);
        bounds(NO_SUCH, 0, 2, x::heeded);
        x = new HatNet();
        refused(x.heeded(0), NO_SUCH);
    }

    @Sentence(of = "Promise 14", says = "In how many COLOURINGS a PLAYER would guess otherwise, if it was shown some other "
        + "COLOUR of a PLAYER that it sees")
    void fooledInColourings() {
        game(GAME);
        fine(x.fooled(0, 1), 24);
        fine(x.fooled(0, 2), 0);
        fine(x.fooled(1, 2), 24);
        // With 3 COLOURS of 2 unseen: with 0 of 1 never, with 1 of 1 always.
        game("players 4;hats 2 3;hats 3 4;sees 0 1;sees 0 3;guess 0 table 0 0 0 0 0 0 0 1;");
        fine(x.fooled(0, 3), 2 * 3 * 4);
        fine(x.fooled(0, 1), 2 * 3 * 2);
        // By one who has but one COLOUR there is no other one to be shown.
        game("players 2;hats 1 1;sees 0 1;");
        fine(x.fooled(0, 1), 0);
    }

    @Sentence(of = "Promise 14", says = "(2;")
    void fooledByNobody() {
        game(GAME);
        bounds(NO_SUCH, 0, 2, p -> x.fooled(p, 1));
        bounds(NO_SUCH, 0, 2, q -> x.fooled(0, q));
        refused(x.fooled(-1, -1), NO_SUCH);
        x = new HatNet();
        refused(x.fooled(0, 1), NO_SUCH);
    }

    @Sentence(of = "Promise 14", says = "4: one and itself;")
    void fooledByItself() {
        game(GAME);
        for (int p = 0; p < 3; p++) {
            refused(x.fooled(p, p), SO_ALREADY);
        }
    }

    @Sentence(of = "Promise 14", says = "; 7).")
    void fooledByOneNotSeen() {
        game(GAME);
        refused(x.fooled(1, 0), NOT_SEEN);
        refused(x.fooled(2, 1), NOT_SEEN);
    }
}
