/**
 * Sentences once more, where a game is as large as it can be, and where an object has had a larger one:
 * nothing of it may be left.
 */
final class SizeSentences extends Sentences {
    private static final int[] SOME = {0, 1, 31, 32, 33, 63, 64, 511, 512, 682, 991, 1022, 1023};
    private static final long FACTOR = 6364136223846793005L;
    private static final long ADDED = 1442695040888963407L;

    /** Six PLAYERS of four COLOURS, who all see each other. */
    private static String largest(String guesses) {
        StringBuilder text = new StringBuilder("players 6;");
        for (int p = 0; p < 6; p++) {
            text.append("hats ").append(p).append(" 4;");
        }
        for (int q = 1; q < 6; q++) {
            for (int p = 0; p < q; p++) {
                text.append("link ").append(p).append(' ').append(q).append(';');
            }
        }
        return text + guesses;
    }

    private static String sums(int... numbers) {
        StringBuilder text = new StringBuilder();
        for (int p = 0; p < numbers.length; p++) {
            text.append("guess ").append(p).append(" sum ").append(numbers[p]).append(';');
        }
        return text.toString();
    }

    /** The digits of a number, each of 4, added. */
    private static int digits(int number) {
        int sum = 0;
        for (int rest = number; rest > 0; rest /= 4) {
            sum += rest % 4;
        }
        return sum;
    }

    /** The number without the digit of a PLAYER. */
    private static int seen(int p, int colouring) {
        int behind = 1 << 2 * (5 - p);
        return colouring / (behind * 4) * behind + colouring % behind;
    }

    // ---- as large as it can be

    @Sentence(of = "Terms 1", says = "TEXT of at most 600 bytes.")
    void asManyTokensAsBytes() {
        fault(2, "^" + ";".repeat(600));
        fault(2, "^" + "1;".repeat(300));
        fault(1, "^" + "?".repeat(600));
        fault(2, "players 1;^" + ";".repeat(590));
        String text = largest(sums(0, 1, 2, 3, 99, 9));
        game(text + " ".repeat(600 - text.length()));
    }

    @Sentence(of = "Terms 2", says = "its number: COLOURS as digits,")
    void colouringsOfTheLargestGame() {
        game(largest(""));
        fine(x.many(1), 4096);
        for (int colouring : new int[] {0, 1, 1023, 1024, 2730, 3003, 4095}) {
            for (int p = 0; p < 6; p++) {
                fine(x.colour(p, colouring), colouring >> 2 * (5 - p) & 3);
                fine(x.situation(p, colouring), seen(p, colouring));
            }
        }
    }

    @Sentence(of = "Terms 2", says = "k less all COLOURS that it sees,")
    void sumsOfTheLargestGame() {
        game(largest(sums(0, 1, 2, 3, 99, 9)));
        int[] numbers = {0, 1, 2, 3, 99, 9};
        for (int p = 0; p < 6; p++) {
            fine(x.player(p, 3), 1024);
            for (int s : SOME) {
                fine(x.guess(p, s), Math.floorMod(numbers[p] - digits(s), 4));
            }
            fine(x.often(p, 3), 256);
            fine(x.heeded(p), 63 & ~(1 << p));
        }
        // Four of them have all of the four sums, and the other two have 3 and 1, too.
        fine(x.lost(NONE), 0);
        fine(x.exact(1), 2048);
        fine(x.exact(2), 2048);
        fine(x.both(3, 4), 1024);
        fine(x.fooled(5, 0), 4096);
        fine(x.crowd(2), 2048);
    }

    @Sentence(of = "Terms 2", says = "and guesses carried along with PLAYERS,")
    void renumberingsOfTheLargestGame() {
        game(largest(sums(2, 2, 2, 2, 2, 2)));
        fine(x.renumber(0), 720);
        fine(x.renumber(1), 720);
        // In 1023 all others have the same COLOUR, in 1022 all but the last one.
        x.set(0, 1023, 0);
        fine(x.renumber(1), 120);
        x.undo();
        x.set(0, 1022, 1);
        fine(x.renumber(1), 24);
        fine(x.alike(1, 4), 1);
        fine(x.alike(1, 5), 0);
        fine(x.alike(0, 1), 0);
    }

    @Sentence(of = "Terms 2", says = "All TABLES are DRAWN: PLAYER by PLAYER, SITUATION by SITUATION")
    void drawnTablesOfTheLargestGame() {
        game(largest(""));
        x.shuffle(4711);
        long drawn = 4711;
        for (int p = 0; p < 6; p++) {
            int next = 0;
            for (int s = 0; s < 1024; s++) {
                drawn = drawn * FACTOR + ADDED;
                if (SOME[next] == s) {
                    fine(x.guess(p, s), (int) ((drawn >>> 33) % 4));
                    next++;
                }
            }
        }
        // However it is DRAWN, each is RIGHT in a fourth.
        int lost = x.lost(NONE);
        fine(x.exact(0), lost);
        fine(x.without(63), lost);
        for (int p = 0; p < 6; p++) {
            fine(x.together(1 << p), 1024);
        }
        refused(x.lost(lost), THERE_IS_NONE);
        fine(x.right(x.lost(lost - 1)), 0);
        fine(x.undo(), 0);
        fine(x.lost(NONE), 729);
    }

    @Sentence(of = "Terms 2", says = "for each SITUATION the COLOUR with which fewest COLOURINGS")
    void bestOfTheLargestGame() {
        // Open to 3 are those where all add up to 3, and neither 4 nor 5 has 0.
        game(largest(sums(0, 1, 2)));
        fine(x.best(3), 0);
        for (int s : SOME) {
            boolean open = s % 4 != 0 && s / 4 % 4 != 0;
            fine(x.bestAt(3, s), open ? Math.floorMod(3 - digits(s), 4) : 0);
        }
        fine(x.bettered(), 3);
        fine(x.lost(NONE), 9 * 48);
        fine(x.take(3), 9 * 48);
        fine(x.lost(NONE), 0);
        x.undo();
        fine(x.better(), 1);
        fine(x.lost(NONE), 0);
        fine(x.undo(), 0);
        fine(x.lost(NONE), 9 * 48);
    }

    @Sentence(of = "Promise 42", says = "TABLES DRAWN, then bettered")
    void searchInTheLargestGame() {
        game(largest(sums(0, 1, 2, 3)));
        int found = x.search(5, 2, 0);
        int first = x.search(5, 2, 1);
        fine(x.lost(NONE), 0);
        fine(x.guess(0, 1023), 1);
        int fewest = MAX;
        int seed = NONE;
        for (int s = 5; s < 7; s++) {
            x.shuffle(s);
            x.better();
            if (x.lost(NONE) < fewest) {
                fewest = x.lost(NONE);
                seed = s;
            }
        }
        same(found, fewest);
        same(first, seed);
    }

    @Sentence(of = "Promise 49", says = "guesses another COLOUR in a SITUATION:")
    void setsTheLastEntryOfTheLargestGame() {
        game(largest(""));
        for (int p = 0; p < 6; p++) {
            for (int s : SOME) {
                fine(x.set(p, s, 1 + s % 3), x.lost(NONE));
            }
        }
        for (int p = 0; p < 6; p++) {
            for (int s : SOME) {
                fine(x.guess(p, s), 1 + s % 3);
            }
            fine(x.guess(p, 30), 0);
            fine(x.guess(p, 1021), 0);
        }
    }

    @Sentence(of = "Promise 52", says = "how many COLOURINGS are LOST then (2;")
    void buildsTheLargestClique() {
        game(largest(""));
        fine(x.build(15), 0);
        fine(x.build(63), 0);
        for (int p = 0; p < 6; p++) {
            for (int s : SOME) {
                fine(x.guess(p, s), Math.floorMod(p - digits(s), 4));
            }
        }
    }

    @Sentence(of = "Promise 53", says = "how many entries of TABLES are others than")
    void renamesInTheLargestGame() {
        game(largest(sums(0, 0, 0, 0, 0, 0)));
        fine(x.rename(0, 0, 3), 512 + 5 * 512);
        fine(x.rename(5, 2, 1), 512 + 5 * 512);
        // 1 is shown 3 2 0 1 1 of 0, 2, 3, 4, 5: for it that is now 0 2 0 1 2.
        fine(x.guess(1, 3 * 256 + 2 * 64 + 1 * 4 + 1), Math.floorMod(0 - 5, 4));
        game(largest(""));
        fine(x.rename(2, 0, 3), 1024);
    }

    @Sentence(of = "Promise 54", says = "A PLAYER sees another one (yes), whatever its COLOUR")
    void seesAllInTheLargestGame() {
        game(largest(sums(0, 1, 2, 3, 0, 1)));
        for (int q = 0; q < 6; q++) {
            if (q != 2) {
                fine(x.see(2, q, false), 256);
                fine(x.see(2, q, true), 1024);
                // It guesses as with COLOUR 0 of that one.
                for (int s : SOME) {
                    int place = q < 2 ? 4 - q : 5 - q;
                    int bare = s & ~(3 << 2 * place);
                    fine(x.guess(2, s), Math.floorMod(2 - digits(bare), 4));
                }
                // And nobody else guesses otherwise than it did.
                for (int p : new int[] {1, 3}) {
                    fine(x.guess(p, 0), p);
                    fine(x.guess(p, 1), p - 1);
                    fine(x.guess(p, 1022), Math.floorMod(p - 14, 4));
                    fine(x.guess(p, 1023), Math.floorMod(p - 15, 4));
                }
                x.undo();
                x.undo();
                fine(x.guess(2, 1023), Math.floorMod(2 - 15, 4));
            }
        }
    }

    @Sentence(of = "Promise 24", says = "if a PLAYER saw another one no more")
    void blindedInTheLargestGame() {
        game(largest(sums(0, 1, 2, 3)));
        // LOST are then those that add up to 3 and where neither 0 nor 4 nor 5 has 0; or, if it is 4 that isn't
        // seen, where neither 4 nor 5 has.
        fine(x.blinded(3, 0), 3 * 9 * 16);
        fine(x.blinded(3, 4), 9 * 64);
        fine(x.weakest(true), 9 * 64);
        fine(x.weakest(false), 4);
    }

    // ---- what a larger game has left

    @Sentence(of = "Promise 4", says = "are a GAME:")
    void nothingIsLeftOfALargerGame() {
        game(largest(sums(3, 2, 1, 0, 3, 2)));
        x.shuffle(17);
        loads("players 2;", 2);
        same(table(0) + table(1), "00");
        fine(x.player(0, 0), 2);
        fine(x.player(1, 1), 0);
        fine(x.player(1, 2), 0);
        fine(x.many(2), 0);
        fine(x.right(3), 0);
        fine(x.lost(NONE), 1);
        fine(x.exact(2), 1);
        fine(x.exact(3), 0);
        fine(x.alone(1), 1);
        fine(x.needed(), 3);
        fine(x.best(0), 1);
        fine(x.renumber(0), 2);
        fine(x.shape(), 0);
        same(printed(), "players 2;hats 0 2;hats 1 2;guess 0 table 0;guess 1 table 0;");
        refused(x.guess(0, 1), NO_SUCH);
        refused(x.right(4), NO_SUCH);
        loads("", 0);
        fine(x.many(1), 0);
        fine(x.exact(0), 0);
        fine(x.lost(NONE), 0);
        fine(x.twice(), 0);
        fine(x.many(2), 0);
        loads("players 2;link 0 1;", 2);
        same(table(0) + table(1), "0000");
    }

    @Sentence(of = "Promise 54", says = "as it did with COLOUR 0 of that one:")
    void nothingIsLeftOfEntriesNoMoreSeen() {
        String text = "players 3;hats 1 2;hats 2 3;sees 0 1;sees 0 2;guess 0 table 0 0 0 1 0 1;guess 1 fixed 1;"
            + "guess 2 fixed 1;";
        game(text);
        // Left are 0 0 0; the others are no SITUATIONS any more.
        x.see(0, 1, false);
        same(table(0), "000");
        fine(x.heeds(0, 2), 0);
        fine(x.heeded(0), 0);
        fine(x.fooled(0, 2), 0);
        fine(x.often(0, 1), 0);
        fine(x.often(0, 0), 3);
        fine(x.rename(2, 0, 1), 1);
        x.undo();
        refused(x.take(0), SO_ALREADY);
        fine(x.rename(0, 0, 1), 3);
        x.undo();
        // Seen again, it is whatever the COLOUR.
        fine(x.see(0, 1, true), 6);
        same(table(0), "000000");
    }

    @Sentence(of = "Promise 41", says = "1: how many are WON, 2:")
    void nothingIsLeftOfOtherWays() {
        String won = "players 2;link 0 1;";
        game(won);
        fine(x.ways(1), 2);
        fine(x.ways(1), 2);
        fine(x.ways(2), 0);
        loads("players 6;hats 0 4;hats 1 4;hats 2 4;hats 3 4;hats 4 4;hats 5 4;", 6);
        fine(x.ways(1), 0);
        fine(x.ways(2), 729);
        loads("players 2;hats 0 1;hats 1 3;", 2);
        fine(x.ways(1), 3);
        fine(x.ways(2), 0);
        loads("players 6;link 0 1;link 2 3;link 4 5;sees 0 2;", 6);
        fine(x.ways(2), 0);
        loads("players 1;hats 0 3;", 1);
        fine(x.ways(1), 0);
        fine(x.ways(2), 2);
        loads(won, 2);
        fine(x.ways(1), 2);
        fine(x.ways(2), 0);
        loads("players 3;hats 0 3;hats 1 3;hats 2 3;sees 1 0;", 3);
        fine(x.ways(2), 8);
    }

    /** Of the ways of six who have two COLOURS, three LINKS, and 0 sees 2, too: by bits, how many are WON. */
    private static int waysOfThreeLinks() {
        int won = 0;
        for (int way = 0; way < 1 << 14; way++) {
            boolean lost = false;
            for (int c = 0; c < 64 && !lost; c++) {
                int[] hat = new int[6];
                for (int p = 0; p < 6; p++) {
                    hat[p] = c >> (5 - p) & 1;
                }
                boolean right = (way >> (2 * hat[1] + hat[2]) & 1) == hat[0] || (way >> (4 + hat[0]) & 1) == hat[1];
                for (int p = 2; p < 6; p++) {
                    right |= (way >> (2 + 2 * p + hat[p ^ 1]) & 1) == hat[p];
                }
                lost = !right;
            }
            won += lost ? 0 : 1;
        }
        return won;
    }

    @Sentence(of = "Promise 41", says = "1: how many are WON, 2: how few")
    void waysOfAsManyEntriesAsThereCanBe() {
        game("players 6;link 0 1;link 2 3;link 4 5;sees 0 2;");
        fine(x.ways(0), 16384);
        fine(x.ways(1), waysOfThreeLinks());
        fine(x.ways(2), 0);
        // Who has but one COLOUR may have more entries, and only one way.
        game("players 4;hats 0 1;hats 1 4;hats 2 4;hats 3 4;sees 0 1;sees 0 2;sees 0 3;");
        fine(x.player(0, 3), 64);
        fine(x.ways(0), 64);
        fine(x.ways(1), 64);
        fine(x.ways(2), 0);
        game("players 4;hats 3 1;hats 1 4;hats 2 4;hats 0 4;sees 3 1;sees 3 2;sees 3 0;");
        fine(x.ways(1), 64);
        fine(x.ways(2), 0);
    }

    // ---- refused while six are kept

    @Sentence(of = "Terms 2", says = "6 are kept; load()")
    void refusedActsTakeNothingOfTheSix() {
        game("players 3;hats 2 4;link 0 1;guess 0 same 1;guess 1 next 0;");
        for (int i = 1; i <= 10; i++) {
            fine(x.set(2, 0, i % 4), 0);
        }
        refused(x.set(2, 0, 2), SO_ALREADY);
        refused(x.take(0), SO_ALREADY);
        refused(x.better(), SO_ALREADY);
        refused(x.build(3), SO_ALREADY);
        refused(x.build(5), NOT_SEEN);
        refused(x.rename(0, 1, 1), SO_ALREADY);
        refused(x.see(0, 1, true), SO_ALREADY);
        refused(x.shuffle(-1), BAD_NUMBER);
        fine(x.search(0, 2, 0), 0);
        fine(x.many(4), 6);
        for (int left = 5; left >= 0; left--) {
            fine(x.undo(), left);
            fine(x.guess(2, 0), (4 + left) % 4);
            refused(x.take(1), SO_ALREADY);
        }
        refused(x.undo(), THERE_IS_NONE);
        fine(x.guess(2, 0), 0);
    }
}
