import java.util.function.BooleanSupplier;
import java.util.function.IntBinaryOperator;
import java.util.function.IntSupplier;

/** Terms 3, and how long an object is used: what a call answers that is refused, and why. */
final class StatusSentences extends Sentences {
    private static final String TERMS = "Terms 3";
    /** Nobody sees 2; 0 sees 1, of 3 COLOURS, and that one sees 0. */
    private static final String GAME = "players 3;hats 1 3;link 0 1;sees 2 0;guess 0 table 0 1 1;guess 1 fixed 2;"
        + "guess 2 same 0;";

    @Sentence(of = "What it is", says = "An object is used for at most 512 calls after it has been made;")
    void allOf512CallsAreAnswered() {
        int calls = 0;
        for (int i = 1; i <= 30; i++) {
            calls++;
            same(x.feed(0x706c6179, 0x65727320, 0x313b2020, 0x20202020, 0x20202020), 20 * i);
        }
        same(x.load(20), 1);
        calls++;
        while (calls < 510) {
            same(x.shuffle(calls) >= 0 ? 1 : 0, 1);
            calls++;
        }
        same(x.many(4), 6);
        same(x.undo(), 5);
    }

    // ---- the first STATUS that holds

    @Sentence(of = TERMS, says = "STATUS of a call is the first of these that holds:")
    void theFirstStatusThatHolds() {
        game(GAME);
        // 1 ahead of 2.
        refused(x.player(3, 4), BAD_NUMBER);
        refused(x.nearest(99, 2), BAD_NUMBER);
        refused(x.share(0, 2), BAD_NUMBER);
        refused(x.share(8, -1), BAD_NUMBER);
        // 2 ahead of 4.
        for (int no : new int[] {-1, 3}) {
            refused(x.heeds(no, no), NO_SUCH);
            refused(x.fooled(no, no), NO_SUCH);
            refused(x.both(no, no), NO_SUCH);
            refused(x.blinded(no, no), NO_SUCH);
            refused(x.alike(no, no), NO_SUCH);
            refused(x.see(no, no, false), NO_SUCH);
            refused(x.rename(0, no, no), NO_SUCH);
            refused(x.rename(no, 0, 0), NO_SUCH);
            // 2 ahead of 7: who is none isn't seen, and sees nobody.
            refused(x.heeds(0, no), NO_SUCH);
            refused(x.fooled(no, 0), NO_SUCH);
            refused(x.blinded(0, no), NO_SUCH);
            // 2 ahead of 5: there is no way to who is none.
            refused(x.far(0, no), NO_SUCH);
        }
        refused(x.build(15), NO_SUCH);
        // 4 ahead of 7: nobody sees itself.
        refused(x.heeds(1, 1), SO_ALREADY);
        refused(x.fooled(1, 1), SO_ALREADY);
        refused(x.blinded(1, 1), SO_ALREADY);
    }

    @Sentence(of = TERMS, says = "STATUS of a call is the first of these that holds: 1")
    void badNumbersAreToldAheadOfAllElse() {
        // 1 ahead of 3.
        game("players 5;link 0 1;link 1 2;link 2 3;link 3 4;");
        refused(x.ways(3), BAD_NUMBER);
        refused(x.ways(2), TOO_MANY);
        // 1 ahead of 5, and 2 ahead of 5: none is LOST.
        game("players 2;link 0 1;guess 0 same 1;guess 1 next 0;");
        refused(x.nearest(0, 2), BAD_NUMBER);
        refused(x.nearest(4, 0), NO_SUCH);
        refused(x.nearest(3, 1), THERE_IS_NONE);
        refused(x.lost(-2), BAD_NUMBER);
        refused(x.out(-1), BAD_NUMBER);
        // 1 ahead of 5: there are no PLAYERS.
        x = new HatNet();
        refused(x.crowd(3), BAD_NUMBER);
        refused(x.search(-1, 1, 0), BAD_NUMBER);
        refused(x.search(0, 11, 0), BAD_NUMBER);
        refused(x.search(0, 1, 2), BAD_NUMBER);
        refused(x.shuffle(-1), BAD_NUMBER);
        // 1 ahead of 9.
        tape("?");
        refused(x.load(21), BAD_NUMBER);
        same(x.fault(0), NONE);
    }

    @Sentence(of = TERMS, says = "1 a number that can't be (below 0, too, of one that counts).")
    void numbersThatCantBe() {
        game(GAME);
        bounds(BAD_NUMBER, 0, 5, x::many);
        bounds(BAD_NUMBER, 0, 3, what -> x.player(0, what));
        bounds(BAD_NUMBER, 0, 6, x::exact);
        bounds(BAD_NUMBER, 0, 6, x::atLeast);
        bounds(BAD_NUMBER, 0, 2, x::crowd);
        bounds(BAD_NUMBER, 0, 1, what -> x.nearest(0, what));
        bounds(BAD_NUMBER, 0, 1, what -> x.share(1, what));
        bounds(BAD_NUMBER, 0, 2, x::ways);
        bounds(BAD_NUMBER, 0, 999999999, s -> x.search(s, 1, 0));
        bounds(BAD_NUMBER, 1, 10, n -> x.search(0, n, 0));
        bounds(BAD_NUMBER, 0, 1, what -> x.search(0, 1, what));
        bounds(BAD_NUMBER, 0, 1, x::renumber);
        bounds(BAD_NUMBER, 0, 999999999, x::shuffle);
        refused(x.lost(-2), BAD_NUMBER);
        refused(x.lost(MIN), BAD_NUMBER);
        refused(x.out(-1), BAD_NUMBER);
        refused(x.out(MIN), BAD_NUMBER);
        refused(x.load(-1), BAD_NUMBER);
        refused(x.load(MIN), BAD_NUMBER);
    }

    @Sentence(of = TERMS, says = "2 no such PLAYER,")
    void noSuchPlayer() {
        game(GAME);
        bounds(NO_SUCH, 0, 2, p -> x.player(p, 0));
        bounds(NO_SUCH, 0, 2, p -> x.guess(p, 0));
        bounds(NO_SUCH, 0, 2, p -> x.situation(p, 0));
        bounds(NO_SUCH, 0, 2, p -> x.colour(p, 0));
        bounds(NO_SUCH, 0, 2, p -> x.often(p, 0));
        bounds(NO_SUCH, 0, 2, x::heeded);
        bounds(NO_SUCH, 0, 2, x::alone);
        bounds(NO_SUCH, 0, 2, p -> x.known(p, 0));
        bounds(NO_SUCH, 0, 2, x::best);
        bounds(NO_SUCH, 0, 2, p -> x.bestAt(p, 0));
        bounds(NO_SUCH, 0, 2, x::part);
        bounds(NO_SUCH, 0, 2, p -> x.set(p, 0, 0));
        bounds(NO_SUCH, 0, 2, x::take);
        bounds(NO_SUCH, 0, 2, p -> x.rename(p, 0, 1));
    }

    private void bothPlayers(IntBinaryOperator call) {
        bounds(NO_SUCH, 0, 2, p -> call.applyAsInt(p, 1));
        bounds(NO_SUCH, 0, 2, q -> call.applyAsInt(1, q));
    }

    @Sentence(of = TERMS, says = "no such PLAYER, COLOUR, SITUATION, COLOURING;")
    void noSuchPlayerOfTwo() {
        game(GAME);
        bothPlayers(x::heeds);
        bothPlayers(x::fooled);
        bothPlayers(x::both);
        bothPlayers(x::blinded);
        bothPlayers(x::alike);
        bothPlayers(x::far);
        bothPlayers((p, q) -> x.see(p, q, true));
        bothPlayers((p, q) -> x.see(p, q, false));
    }

    @Sentence(of = TERMS, says = "COLOUR, SITUATION,")
    void noSuchColour() {
        for (int p = 0; p < 3; p++) {
            game(GAME);
            int player = p;
            int last = p == 1 ? 2 : 1;
            bounds(NO_SUCH, 0, last, c -> x.often(player, c));
            bounds(NO_SUCH, 0, last, c -> x.known(player, c));
            bounds(NO_SUCH, 0, last, c -> x.set(player, 0, c));
            bounds(NO_SUCH, 0, last, c -> x.rename(player, c, 1));
            bounds(NO_SUCH, 0, last, c -> x.rename(player, 1, c));
        }
    }

    @Sentence(of = TERMS, says = "SITUATION, COLOURING;")
    void noSuchSituation() {
        game(GAME);
        int[] last = {2, 1, 1};
        for (int p = 0; p < 3; p++) {
            int player = p;
            bounds(NO_SUCH, 0, last[p], s -> x.guess(player, s));
            bounds(NO_SUCH, 0, last[p], s -> x.bestAt(player, s));
            bounds(NO_SUCH, 0, last[p], s -> x.set(player, s, 0));
        }
        game("players 1;");
        bounds(NO_SUCH, 0, 0, s -> x.guess(0, s));
    }

    @Sentence(of = TERMS, says = "COLOURING; a SET")
    void noSuchColouring() {
        game(GAME);
        bounds(NO_SUCH, 0, 11, x::right);
        bounds(NO_SUCH, 0, 11, c -> x.nearest(c, 0));
        for (int p = 0; p < 3; p++) {
            int player = p;
            bounds(NO_SUCH, 0, 11, c -> x.situation(player, c));
            bounds(NO_SUCH, 0, 11, c -> x.colour(player, c));
        }
    }

    @Sentence(of = TERMS, says = "a SET (bits) that is empty,")
    void emptySets() {
        game(GAME);
        for (IntSupplier call : new IntSupplier[] {() -> x.without(0), () -> x.together(0), () -> x.share(0, 0),
            () -> x.share(0, 1), () -> x.build(0)}) {
            refused(call.getAsInt(), NO_SUCH);
        }
        x = new HatNet();
        refused(x.without(0), NO_SUCH);
        refused(x.together(0), NO_SUCH);
        refused(x.share(0, 0), NO_SUCH);
        refused(x.build(0), NO_SUCH);
    }

    @Sentence(of = TERMS, says = "or has others than PLAYERS.")
    void setsWithOthers() {
        for (int n = 1; n <= 6; n++) {
            game("players " + n + ";");
            int all = (1 << n) - 1;
            bounds(NO_SUCH, 1, all, x::without);
            bounds(NO_SUCH, 1, all, x::together);
            bounds(NO_SUCH, 1, all, set -> x.share(set, 0));
            bounds(NO_SUCH, 1, all, x::build);
            refused(x.without(1 | 1 << n), NO_SUCH);
            refused(x.without(1 | MIN), NO_SUCH);
        }
        x = new HatNet();
        refused(x.without(1), NO_SUCH);
        refused(x.together(1), NO_SUCH);
        refused(x.share(1, 0), NO_SUCH);
        refused(x.build(1), NO_SUCH);
    }

    @Sentence(of = TERMS, says = "3 too many.")
    void tooMany() {
        game("players 6;link 0 1;link 1 2;link 3 4;link 4 5;");
        refused(x.ways(0), TOO_MANY);
        game("players 6;hats 0 4;hats 1 4;hats 2 4;link 0 1;link 0 2;link 1 2;sees 3 0;sees 3 1;sees 3 2;sees 4 0;"
            + "sees 4 1;sees 4 2;");
        refused(x.print(), TOO_MANY);
    }

    @Sentence(of = TERMS, says = "4 it is so already.")
    void itIsSoAlready() {
        game("players 2;link 0 1;guess 0 same 1;guess 1 next 0;");
        refused(x.set(0, 0, 0), SO_ALREADY);
        refused(x.take(0), SO_ALREADY);
        refused(x.better(), SO_ALREADY);
        refused(x.build(3), SO_ALREADY);
        refused(x.rename(0, 1, 1), SO_ALREADY);
        refused(x.see(0, 1, true), SO_ALREADY);
        refused(x.both(1, 1), SO_ALREADY);
        refused(x.alike(0, 0), SO_ALREADY);
    }

    @Sentence(of = TERMS, says = "5 there is none.")
    void thereIsNone() {
        game("players 2;hats 0 1;sees 1 0;");
        refused(x.lost(0), THERE_IS_NONE);
        refused(x.nearest(0, 0), THERE_IS_NONE);
        refused(x.far(0, 1), THERE_IS_NONE);
        refused(x.hub(), THERE_IS_NONE);
        refused(x.undo(), THERE_IS_NONE);
        refused(x.out(0), THERE_IS_NONE);
        game("players 2;link 0 1;");
        refused(x.always(), THERE_IS_NONE);
        game("players 2;");
        refused(x.weakest(false), THERE_IS_NONE);
        refused(x.weakest(true), THERE_IS_NONE);
    }

    @Sentence(of = TERMS, says = "7 it is no CLIQUE;")
    void noClique() {
        game("players 3;link 0 1;sees 1 2;");
        refused(x.build(5), NOT_SEEN);
        refused(x.build(6), NOT_SEEN);
        refused(x.build(7), NOT_SEEN);
        fine(x.build(3), 0);
    }

    @Sentence(of = TERMS, says = "one does not see the other.")
    void oneDoesNotSeeTheOther() {
        game("players 3;link 0 1;sees 1 2;");
        for (int[] pair : new int[][] {{0, 2}, {2, 0}, {2, 1}}) {
            refused(x.heeds(pair[0], pair[1]), NOT_SEEN);
            refused(x.fooled(pair[0], pair[1]), NOT_SEEN);
            refused(x.blinded(pair[0], pair[1]), NOT_SEEN);
        }
        fine(x.heeds(1, 2), 0);
    }

    @Sentence(of = TERMS, says = "9 a FAULT.")
    void aFault() {
        refused(Check.load(x, "players 2;x"), FAULTY);
        refused(Check.load(x, "players"), FAULTY);
    }

    @Sentence(of = TERMS, says = "0 else.")
    void elseZero() {
        refused(x.many(9), BAD_NUMBER);
        fine(x.many(0), 0);
        refused(x.right(0), NO_SUCH);
        fine(x.print(), 0);
        refused(x.undo(), THERE_IS_NONE);
        loads("players 1;", 1);
    }

    // ---- refused calls change nothing

    /** All calls that change something, refused for each STATUS that they have. */
    private IntSupplier[] refusals() {
        return new IntSupplier[] {() -> x.load(-1), () -> x.load(599), () -> x.set(3, 0, 0), () -> x.set(0, 3, 0),
            () -> x.set(0, 0, 2), () -> x.set(0, 0, x.guess(0, 0)), () -> x.take(3), () -> x.take(0), () -> x.better(),
            () -> x.build(0), () -> x.build(8), () -> x.build(6), () -> x.build(3), () -> x.rename(3, 0, 1),
            () -> x.rename(0, 0, 2), () -> x.rename(0, 1, 1), () -> x.see(0, 3, true), () -> x.see(0, 0, true),
            () -> x.see(0, 1, true), () -> x.see(2, 0, false), () -> x.shuffle(-1), () -> x.out(-1), () -> x.out(601),
            () -> x.search(-1, 1, 0), () -> x.search(0, 0, 0), () -> x.search(0, 1, 2), () -> x.ways(3),
            () -> x.crowd(3), () -> x.nearest(0, 2), () -> x.blinded(0, 2), () -> x.many(6)};
    }

    /** A WON game with two acts behind it. */
    private void gameWithActs() {
        game("players 3;link 0 1;sees 1 2;guess 2 fixed 1;");
        x.build(3);
        x.set(2, 0, 0);
    }

    @Sentence(of = TERMS, says = "With another STATUS than 0 a call gives NONE,")
    void refusedCallsGiveNone() {
        gameWithActs();
        for (IntSupplier call : refusals()) {
            same(call.getAsInt(), NONE);
            same(x.status() == 0 ? 1 : 0, 0);
        }
    }

    @Sentence(of = TERMS, says = "and changes nothing else")
    void refusedCallsChangeNothing() {
        for (int i = 0; i < refusals().length; i++) {
            gameWithActs();
            String before = printed();
            tape("players 2;");
            refusals()[i].getAsInt();
            int status = x.status();
            same(status == 0 ? 1 : 0, 0);
            same(Check.out(x), before);
            same(x.fault(0), 0);
            same(x.fault(1), NONE);
            fine(x.lost(NONE), 0);
            fine(x.many(4), 2);
            same(printed(), before);
            fine(x.undo(), 1);
            fine(x.guess(2, 0), 1);
            fine(x.undo(), 0);
            same(table(0) + table(1), "000000");
            refused(x.undo(), THERE_IS_NONE);
            fine(x.load(10), 2);
        }
    }

    @Sentence(of = TERMS, says = "(but load() with 9: the tape and what fault() tells).")
    void faultyLoadChangesTapeAndFaultAlone() {
        gameWithActs();
        String before = printed();
        tape("players 1;hats 0 3;link 0 0;");
        refused(x.load(28), FAULTY);
        same(x.fault(0), 3);
        same(x.fault(1), 26);
        refused(x.load(1), BAD_NUMBER);
        same(x.fault(0), 3);
        same(Check.out(x), before);
        same(printed(), before);
        fine(x.lost(NONE), 0);
        fine(x.many(4), 2);
        fine(x.undo(), 1);
        fine(x.guess(2, 0), 1);
        fine(x.undo(), 0);
    }

    @Sentence(of = TERMS, says = "status(), feed(), fault() have none.")
    void callsWithoutStatus() {
        refused(x.many(9), BAD_NUMBER);
        for (BooleanSupplier call : new BooleanSupplier[] {() -> x.status() == BAD_NUMBER,
            () -> x.feed(0, 0, 0, 0, 0) == 20, () -> x.fault(0) == NONE, () -> x.fault(9) == NONE}) {
            same(call.getAsBoolean() ? 1 : 0, 1);
            same(x.status(), BAD_NUMBER);
        }
        game("players 1;");
        for (int i = 0; i < 30; i++) {
            x.feed(i, i, i, i, i);
        }
        same(x.feed(0, 0, 0, 0, 0), NONE);
        same(x.status(), 0);
        same(x.fault(2), NONE);
        same(x.status(), 0);
    }
}
