/** Terms 1: what a TEXT is made of, and its FAULTS. In the texts of fault(), ^ marks the place. */
final class TextSentences extends Sentences {
    private static final String TERMS = "Terms 1";
    private static final String LINKED = "players 2;link 0 1;";

    // ---- TOKENS

    @Sentence(of = TERMS, says = "A GAME is told by a TEXT of at most 600 bytes.")
    void theLongestTextIsReadToItsLastByte() {
        String text = "players 2;" + " ".repeat(581) + "link 0 1;";
        same(text.length(), 600);
        game(text);
        fine(x.many(3), 1);
        tape(text);
        refused(x.load(599), FAULTY);
        same(x.fault(0), 2);
        same(x.fault(1), 599);
        tape(text);
        tape("players 1;");
        refused(x.load(601), BAD_NUMBER);
        fine(x.load(600), 2);
    }

    @Sentence(of = TERMS, says = "TOKENS, as long as they go,")
    void tokensGoOnAsLongAsTheyCan() {
        game("players 2;hats 0 3;guess 0 sum 11;");
        fine(x.guess(0, 0), 2);
        fault(3, "players 2;hats 0 ^11;");
        fault(2, "players 2;^links 0 1;");
        fault(2, "players 2;^lin k 0 1;");
        fault(2, LINKED + "guess 0 ^sums 0;");
    }

    @Sentence(of = TERMS, says = "between them blanks (10, 32):")
    void blanksAreNewLineAndSpaceAlone() {
        game("\n \nplayers\n2 \n ;\n\nlink   0\n1\n; \n");
        fine(x.many(3), 1);
        for (int no : new int[] {0, 9, 11, 12, 13, 31, 33, 127, 138, 160, 255}) {
            fault(1, "players^" + (char) no + "2;");
            fault(1, "players 2;\n^" + (char) no);
        }
    }

    @Sentence(of = TERMS, says = "WORDS (1 to 8 small letters;")
    void wordsOfOneAndOfEightLetters() {
        for (String word : new String[] {"a", "z", "abcdefgh", "stuvwxyz", "playersx"}) {
            fault(2, "^" + word + " 2;");
        }
        for (String none : new String[] {"`", "{", "A", "Z", "@", "["}) {
            fault(1, "^" + none);
            fault(1, "players^" + none + " 2;");
        }
    }

    @Sentence(of = TERMS, says = "a longer one is no TOKEN")
    void wordOfNineLettersIsNoToken() {
        fault(1, "^abcdefghi");
        fault(1, "^playersss 2;");
        fault(1, "players 2;^playershats");
        fault(1, "^" + "p".repeat(600));
    }

    @Sentence(of = TERMS, says = "NUMBERS (1 or 2 digits;")
    void numbersOfOneAndOfTwoDigits() {
        game("players 06;hats 05 04;hats 4 03;link 00 01;guess 00 sum 09;guess 1 sum 10;guess 2 sum 99;");
        fine(x.player(5, 0), 4);
        fine(x.player(4, 0), 3);
        fine(x.player(0, 1), 2);
        fine(x.guess(0, 0), 1);
        fine(x.guess(1, 0), 0);
        fine(x.guess(2, 0), 1);
        fault(1, "players ^/;");
        fault(1, "players ^:;");
        fault(1, "players ^-1;");
    }

    @Sentence(of = TERMS, says = "a longer one is none")
    void numberOfThreeDigitsIsNoToken() {
        fault(1, "players ^002;");
        fault(1, "players ^100;");
        fault(1, "players 2;hats ^000 2;");
        fault(1, "players 2;guess 0 sum ^100;");
        fault(1, "players ^" + "2".repeat(592));
    }

    @Sentence(of = TERMS, says = "the SIGN ;")
    void theOnlySign() {
        fault(2, "^;");
        for (String none : new String[] {":", "<", ",", ".", "+", "-", "'", "~"}) {
            fault(1, "players 2^" + none);
            fault(1, "^" + none);
        }
    }

    // ---- LINES

    @Sentence(of = TERMS, says = "A TEXT: {LINE}. ({ } any number of times.)")
    void noLineAndManyLines() {
        loads("", 0);
        loads(" \n", 0);
        fine(x.many(0), 0);
        game("players 1;");
        StringBuilder all = new StringBuilder("players 6;");
        for (int p = 0; p < 6; p++) {
            all.append("hats ").append(p).append(" 1;");
        }
        for (int code = 0; code < 36; code++) {
            all.append(code % 7 == 0 ? "" : "sees " + code / 6 + " " + code % 6 + ";");
        }
        for (int p = 0; p < 6; p++) {
            all.append("guess ").append(p).append(" table 0;");
        }
        game(all.toString());
        fine(x.many(2), 30);
    }

    /** A LINE by its TOKENS: a text that ends ahead of one is too short, and no other TOKEN can stand there. */
    private void line(String ahead, String... tokens) {
        StringBuilder before = new StringBuilder(ahead);
        for (int i = 1; i < tokens.length; i++) {
            before.append(tokens[i - 1]).append(' ');
            fault(2, before + "^");
            fault(1, before + "^?");
            boolean number = Character.isDigit(tokens[i].charAt(0));
            boolean sign = tokens[i].equals(";");
            fault(2, before + "^x");
            fault(2, before + "^players");
            fault(number ? 1 : 2, before + (number ? "^000" : "^0"));
            fault(sign ? 1 : 2, before + (sign ? "^," : "^;"));
        }
        fault(2, before + "; ^;");
        fault(2, before + "; ^0");
        game(before + ";");
    }

    @Sentence(of = TERMS, says = "LINE: players NUMBER ;")
    void lineOfPlayers() {
        line("", "players", "2", ";");
    }

    @Sentence(of = TERMS, says = "or hats NUMBER NUMBER ;")
    void lineOfHats() {
        line("players 2;", "hats", "1", "3", ";");
    }

    @Sentence(of = TERMS, says = "or link NUMBER NUMBER ;")
    void lineOfLink() {
        line("players 2;", "link", "1", "0", ";");
    }

    @Sentence(of = TERMS, says = "or sees NUMBER NUMBER ;")
    void lineOfSees() {
        line("players 2;", "sees", "1", "0", ";");
    }

    @Sentence(of = TERMS, says = "or guess NUMBER RULE ;")
    void lineOfGuess() {
        line(LINKED, "guess", "1", "fixed", "0", ";");
        for (String no : new String[] {"players", "hats", "link", "sees", "guess", "tables", "0", ";"}) {
            fault(2, LINKED + "guess 1 ^" + no + " 0;");
        }
    }

    @Sentence(of = TERMS, says = "RULE: sum NUMBER,")
    void ruleSum() {
        line(LINKED, "guess", "1", "sum", "99", ";");
        game("players 2;hats 0 4;sees 0 1;guess 0 sum 3;");
        same(table(0), "32");
    }

    @Sentence(of = TERMS, says = "or same NUMBER,")
    void ruleSame() {
        line(LINKED, "guess", "1", "same", "0", ";");
    }

    @Sentence(of = TERMS, says = "or next NUMBER,")
    void ruleNext() {
        line(LINKED, "guess", "1", "next", "0", ";");
    }

    @Sentence(of = TERMS, says = "or fixed NUMBER,")
    void ruleFixed() {
        line(LINKED, "guess", "1", "fixed", "1", ";");
    }

    @Sentence(of = TERMS, says = "or table NUMBER {NUMBER}.")
    void ruleTable() {
        line("players 2;", "guess", "1", "table", "1", ";");
        line(LINKED, "guess", "1", "table", "1", "0", ";");
        line("players 3;hats 0 3;link 1 0;link 1 2;", "guess", "1", "table", "1", "0", "0", "1", "1", "1", ";");
    }

    @Sentence(of = TERMS, says = "players: 1 to 6;")
    void fromOneToSixPlayers() {
        for (int n = 1; n <= 6; n++) {
            game("players " + n + ";");
        }
        for (String no : new String[] {"0", "00", "7", "07", "10", "99"}) {
            fault(3, "players ^" + no + ";");
        }
    }

    @Sentence(of = TERMS, says = "once, ahead of all others.")
    void playersOnceAndFirst() {
        fault(2, "players 2;^players 2;");
        fault(2, "players 2;hats 0 3;^players 2;");
        fault(2, "players 2;guess 0 fixed 0;^players 3;");
        for (String line : new String[] {"hats 0 2;", "link 0 1;", "sees 0 1;", "guess 0 fixed 0;"}) {
            fault(2, "^" + line);
            fault(2, "^" + line + "players 2;");
        }
    }

    @Sentence(of = TERMS, says = "PLAYERS are numbered from 0 on.")
    void theLastPlayerIsOneLessThanThereAre() {
        for (int n = 1; n <= 6; n++) {
            game("players " + n + ";hats 0 3;");
            fine(x.player(0, 0), 3);
            game("players " + n + ";hats " + (n - 1) + " 3;");
            fine(x.player(n - 1, 0), 3);
            fault(3, "players " + n + ";hats ^" + n + " 3;");
        }
    }

    @Sentence(of = TERMS, says = "hats: of a PLAYER how many COLOURS it may have, 1 to 4")
    void fromOneToFourColours() {
        for (int n = 1; n <= 4; n++) {
            game("players 2;hats 1 " + n + ";");
            fine(x.player(1, 0), n);
            fine(x.many(1), 2 * n);
        }
        for (String no : new String[] {"0", "00", "5", "05", "10", "99"}) {
            fault(3, "players 2;hats 1 ^" + no + ";");
        }
    }

    @Sentence(of = TERMS, says = "(2 without)")
    void twoColoursWithoutHats() {
        game("players 6;hats 3 4;");
        for (int p = 0; p < 6; p++) {
            fine(x.player(p, 0), p == 3 ? 4 : 2);
        }
        loads("players 6;", 6);
        fine(x.player(3, 0), 2);
    }

    @Sentence(of = TERMS, says = "once each, ahead of all guess LINES. link:")
    void hatsOnceEachAheadOfGuesses() {
        fault(4, "players 2;hats 0 3;hats ^0 4;");
        fault(4, "players 2;hats 0 3;hats 1 3;hats ^1 3;");
        game("players 2;link 0 1;hats 1 3;hats 0 4;guess 0 fixed 3;");
        fault(2, "players 2;guess 0 fixed 0;^hats 0 3;");
        fault(2, "players 2;guess 0 fixed 0;^hats 1 3;");
    }

    @Sentence(of = TERMS, says = "link: two unlike PLAYERS see each other;")
    void linkOfTwoUnlike() {
        game("players 3;link 2 0;");
        fine(x.player(0, 1), 4);
        fine(x.player(1, 1), 0);
        fine(x.player(2, 1), 1);
        fault(3, "players 3;link 0 ^0;");
        fault(3, "players 3;link 2 ^2;");
    }

    @Sentence(of = TERMS, says = "sees: the first one sees the other (unlike) one;")
    void seesOneUnlike() {
        game("players 3;sees 2 0;");
        fine(x.player(0, 1), 0);
        fine(x.player(2, 1), 1);
        fault(3, "players 3;sees 0 ^0;");
        fault(3, "players 3;sees 2 ^2;");
    }

    @Sentence(of = TERMS, says = "none of that told already;")
    void nothingSeenIsToldTwice() {
        fault(4, "players 2;link 0 1;link 0 ^1;");
        fault(4, "players 2;link 0 1;link 1 ^0;");
        fault(4, "players 2;sees 1 0;sees 1 ^0;");
        game("players 2;sees 1 0;sees 0 1;");
        fine(x.many(3), 1);
        game("players 3;link 0 1;link 1 2;link 2 0;");
        fine(x.many(3), 3);
    }

    @Sentence(of = TERMS, says = "told already; ahead of all guess LINES. guess:")
    void sightAheadOfGuesses() {
        fault(2, "players 3;guess 0 fixed 0;^link 0 1;");
        fault(2, "players 3;guess 0 fixed 0;^link 1 2;");
        fault(2, "players 3;guess 0 fixed 0;^sees 0 1;");
        fault(2, "players 3;guess 0 fixed 0;^sees 1 2;");
        game("players 3;link 0 1;hats 0 3;sees 2 0;guess 0 fixed 0;");
    }

    @Sentence(of = TERMS, says = "guess: how a PLAYER guesses, once each")
    void oneGuessEach() {
        fault(4, LINKED + "guess 1 fixed 0;guess ^1 fixed 0;");
        fault(4, LINKED + "guess 1 same 0;guess 0 same 1;guess ^1 next 0;");
        game(LINKED + "guess 1 fixed 1;guess 0 fixed 1;");
        same(table(0) + table(1), "1111");
    }

    @Sentence(of = TERMS, says = "(fixed 0 without)")
    void fixedZeroWithoutGuess() {
        game("players 3;hats 1 4;link 0 1;guess 0 fixed 1;");
        same(table(0), "1111");
        same(table(1), "00");
        same(table(2), "0");
        loads("players 3;hats 1 4;link 0 1;", 3);
        same(table(0), "0000");
    }

    // ---- FAULTS

    @Sentence(of = TERMS, says = "FAULTS, told where they stand;")
    void placeIsTheFirstByteOfTheToken() {
        fault(3, "players   ^9;");
        fault(3, "\n\nplayers\n^99\n;");
        fault(1, "players    ^123;");
        fault(2, "  ^wrong");
        fault(3, "players 2;" + " ".repeat(300) + "hats ^2 2;");
        fault(2, "players 1;" + " ".repeat(589) + "^1");
    }

    @Sentence(of = TERMS, says = "of several the first along the text,")
    void theFirstOfSeveralFaults() {
        fault(3, "players ^7;hats 9 9;");
        fault(3, "players ^7 ?");
        fault(2, "players 2;^x 000");
        fault(4, "players 2;hats 0 3;hats ^0 9;");
        fault(3, "players 2;hats ^2 9;");
        fault(3, "players 2;link ^2 2;");
        fault(4, "players 2;guess 0 fixed 0;guess ^0 fixed 9;");
        fault(3, "players 2;link 0 1;guess 0 table ^2 1 1;");
        fault(1, "^? players 9;");
    }

    @Sentence(of = TERMS, says = "of one TOKEN the least kind:")
    void theLeastKindOfOneToken() {
        // No TOKEN, and not what can stand there.
        fault(1, "players 2^?");
        fault(1, "^000");
        fault(1, "players 2;^playersss 2;");
        // No TOKEN, and a number that can't be.
        fault(1, "players ^999;");
        // One number too many, and no COLOUR.
        fault(2, "players 2;guess 0 table 0 ^9;");
        // Hats told already, but too late.
        fault(2, "players 2;hats 0 3;guess 0 fixed 0;^hats 0 3;");
        fault(2, LINKED + "guess 0 fixed 0;^link 0 1;");
    }

    @Sentence(of = TERMS, says = "1 no TOKEN begins there.")
    void noTokenAnywhere() {
        for (String before : new String[] {"", "players ", "players 2", "players 2;", "players 2;hats ",
            "players 2;hats 0 ", "players 2;hats 0 3", LINKED + "guess ", LINKED + "guess 0 ", LINKED + "guess 0 same ",
            LINKED + "guess 0 table ", LINKED + "guess 0 table 0 ", LINKED + "guess 0 table 0 0 "}) {
            fault(1, before + "^_");
            fault(1, before + "^\u00e9 ;");
        }
    }

    @Sentence(of = TERMS, says = "2 a TOKEN that can't stand there")
    void tokenThatCantStandThere() {
        fault(2, "^fixed");
        fault(2, "^0");
        fault(2, "players 2;^fixed 0;");
        fault(2, "players 2;^;");
        fault(2, "players ^players");
        fault(2, "players 2 ^2;");
        fault(2, "players 2 ^hats 0 3;");
        fault(2, "players 2;hats 0 3 ^3;");
        fault(2, "players 2;link 0 ^;");
        fault(2, LINKED + "guess 0 ^guess 0;");
        for (String word : new String[] {"olayers", "playerz", "player", "plaiers", "playersa"}) {
            fault(2, "^" + word + " 2;");
        }
        for (String word : new String[] {"fats", "hatz", "hat", "hatss", "pink", "linc", "bees", "seeds", "suess", "gues"}) {
            fault(2, "players 2;^" + word + " 0 1;");
        }
        for (String word : new String[] {"dum", "su", "sun", "came", "sane", "text", "nest", "mixed", "fixes", "fable",
            "tables", "tabla"}) {
            fault(2, LINKED + "guess 0 ^" + word + " 1;");
        }
    }

    @Sentence(of = TERMS, says = "(the end of the text: its length;")
    void theEndOfTheTextIsItsLength() {
        fault(2, "players^");
        fault(2, "players 2^");
        fault(2, "players 2  \n^");
        fault(2, "players 2;hats 0 3^");
        fault(2, "players 1;" + " ".repeat(583) + "hats 0 ^");
        fault(2, LINKED + "guess 0 table 0 0^");
        // The end is where load() says, not where the tape ends.
        x = new HatNet();
        tape("players 2;");
        refused(x.load(9), FAULTY);
        same(x.fault(0), 2);
        same(x.fault(1), 9);
        tape("players 2;");
        refused(x.load(6), FAULTY);
        same(x.fault(0), 2);
        same(x.fault(1), 0);
    }

    @Sentence(of = TERMS, says = "a LINE too early,")
    void linesTooEarly() {
        for (String line : new String[] {"hats", "link", "sees", "guess"}) {
            fault(2, "^" + line + " 9 9;players 2;");
            fault(2, " \n^" + line);
        }
    }

    @Sentence(of = TERMS, says = "too late;")
    void linesTooLate() {
        for (String line : new String[] {"hats 1 3;", "link 0 1;", "sees 0 1;", "players 2;", "hats 9 9;"}) {
            fault(2, "players 2;guess 0 fixed 0;^" + line);
        }
        fault(2, "players 2;link 0 1;^players 2;");
    }

    @Sentence(of = TERMS, says = "a number of a table too many,")
    void oneNumberOfATableTooMany() {
        fault(2, "players 1;guess 0 table 0 ^0;");
        fault(2, LINKED + "guess 0 table 0 0 ^0;");
        fault(2, "players 2;hats 1 4;link 0 1;guess 0 table 0 1 0 1 ^0 1;");
        game("players 2;hats 1 4;link 0 1;guess 0 table 0 1 0 1;");
        same(table(0), "0101");
    }

    @Sentence(of = TERMS, says = "; with too few).")
    void signWithTooFewNumbersOfATable() {
        fault(2, "players 1;guess 0 table^;");
        fault(2, LINKED + "guess 0 table 0^;");
        fault(2, "players 2;hats 1 4;link 0 1;guess 0 table 0 1 0 ^;");
    }

    @Sentence(of = TERMS, says = "3 a NUMBER that can't be (no such PLAYER,")
    void noSuchPlayerInAText() {
        for (String no : new String[] {"3", "03", "6", "99"}) {
            fault(3, "players 3;hats ^" + no + " 2;");
            fault(3, "players 3;link ^" + no + " 0;");
            fault(3, "players 3;link 0 ^" + no + ";");
            fault(3, "players 3;sees ^" + no + " 0;");
            fault(3, "players 3;sees 0 ^" + no + ";");
            fault(3, "players 3;guess ^" + no + " fixed 0;");
            fault(3, "players 3;link 0 1;guess 0 same ^" + no + ";");
            fault(3, "players 3;link 0 1;guess 0 next ^" + no + ";");
        }
        game("players 3;hats 2 2;link 2 0;sees 0 1;guess 2 same 0;guess 0 next 2;");
    }

    @Sentence(of = TERMS, says = "PLAYER, COLOUR;")
    void noSuchColourInAText() {
        for (int n = 1; n <= 4; n++) {
            String ahead = "players 1;hats 0 " + n + ";guess 0 ";
            fault(3, ahead + "fixed ^" + n + ";");
            fault(3, ahead + "table ^" + n + ";");
            game(ahead + "fixed " + (n - 1) + ";");
            same(table(0), "" + (n - 1));
            game(ahead + "table " + (n - 1) + ";");
            same(table(0), "" + (n - 1));
        }
        fault(3, LINKED + "guess 0 table 1 ^2;");
        fault(3, LINKED + "guess 0 fixed ^99;");
        // Of sum it is no COLOUR.
        game("players 1;hats 0 4;guess 0 sum 4;");
        same(table(0), "0");
    }

    @Sentence(of = TERMS, says = "behind sees, link the same PLAYER;")
    void theSamePlayerBehindSeesAndLink() {
        for (int p = 0; p < 6; p++) {
            fault(3, "players 6;sees " + p + " ^" + p + ";");
            fault(3, "players 6;link " + p + " ^" + p + ";");
        }
    }

    @Sentence(of = TERMS, says = "behind same, next one that isn't seen).")
    void notSeenBehindSameAndNext() {
        for (String rule : new String[] {"same", "next"}) {
            String ahead = "players 4;sees 0 1;sees 1 2;guess ";
            fault(3, ahead + "0 " + rule + " ^2;");
            fault(3, ahead + "1 " + rule + " ^0;");
            fault(3, ahead + "0 " + rule + " ^0;");
            fault(3, ahead + "3 " + rule + " ^3;");
            game(ahead + "0 " + rule + " 1;");
        }
    }

    @Sentence(of = TERMS, says = "4 told already: hats of a PLAYER,")
    void hatsToldAlready() {
        fault(4, "players 2;hats 1 3;hats ^1 3;");
        fault(4, "players 2;hats 1 2;hats ^1");
        fault(4, "players 3;hats 0 3;hats 1 3;hats 2 3;hats ^0 3;");
        game("players 2;hats 1 3;hats 0 3;");
    }

    @Sentence(of = TERMS, says = "a guess of it (at its NUMBER),")
    void guessToldAlreadyAtTheNumber() {
        fault(4, "players 2;guess 1 sum 0;guess ^1 sum 0;");
        fault(4, "players 2;guess 1 sum 0;guess ^1");
        fault(4, "players 2;guess 1 sum 0;guess ^1 x");
        fault(4, "players 3;guess 0 sum 0;guess 1 sum 0;guess 2 sum 0;guess ^0 sum 0;");
    }

    @Sentence(of = TERMS, says = "that it sees the other one (at the second NUMBER;")
    void sightToldAlreadyAtTheSecondNumber() {
        fault(4, "players 3;sees 0 1;sees 0 ^1;");
        fault(4, "players 3;link 0 1;sees 0 ^1;");
        fault(4, "players 3;link 0 1;sees 1 ^0");
        game("players 3;sees 0 1;sees 0 2;sees 1 0;");
    }

    @Sentence(of = TERMS, says = "of link, if one sees the other).")
    void linkOfTwoOfWhomOneSeesTheOther() {
        fault(4, "players 3;sees 0 1;link 0 ^1;");
        fault(4, "players 3;sees 0 1;link 1 ^0;");
        fault(4, "players 3;link 0 1;link 1 ^0;");
        game("players 3;sees 0 1;link 0 2;link 1 2;");
    }
}
