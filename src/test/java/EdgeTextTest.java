/** The sentences on the TEXT, its FAULTS, the TAPE and names: Terms up to part 2, promises 1 to 5. */
public final class EdgeTextTest {
    private static final String A = "user a 0 0 1 1;";
    private static final String B = "user b 0 0 1 1;";
    private static final String SIX_USERS = A + B + "user c 0 0 1 1;user d 0 0 1 1;user e 0 0 1 1;user f 0 0 1 1;";
    private static final String SIX_BLOCKS = "block 1 1;block 2 2;block 3 3;block 4 4;block 5 5;block 6 6;";

    public static void main(String[] args) {
        Edges.run(EdgeTextTest.class);
    }

    private static Run good(String text, int lines) {
        return Run.fresh().tell(text, lines).due("fault 0", 0).due("fault 1", -1);
    }

    private static void bad(String text, int kind, int place) {
        Run.fresh().tell(text, -1).due("fault 0", kind).due("fault 1", place).due("count 0", 0).due("count 1", 30);
    }

    // ---- the form of a TEXT

    @Says("A TEXT: { LINE ';' }.")
    static void terms_aTextIsLinesWithASemicolonBehindEach() {
        good("", 0);
        good("seed 1;", 1);
        good("seed 1;guard 1;", 2);
        bad(";", 1, 0);
        bad("seed 1;;", 1, 7);
        bad("seed 1;;guard 1;", 1, 7);
        bad("seed 1 guard 1;", 1, 7);
        bad("seed 1;guard 1", 1, 14);
    }

    /** A LINE as it is, with its last token missing, and with one more than it has. */
    private static void form(String ahead, String line, int lines) {
        good(ahead + line + ";", lines);
        int last = line.lastIndexOf(' ');
        bad(ahead + line.substring(0, last) + ";", 1, ahead.length() + last);
        bad(ahead + line + " 1;", 1, ahead.length() + line.length() + 1);
        bad(ahead + line + " a;", 1, ahead.length() + line.length() + 1);
        for (int at = line.indexOf(' '); at >= 0; at = line.indexOf(' ', at + 1)) {
            bad(ahead + line.substring(0, at), 1, ahead.length() + at);
            bad(ahead + line.substring(0, at + 1) + "band" + line.substring(at + 2) + ";", 1, ahead.length() + at + 1);
        }
    }

    @Says("LINE: band N")
    static void terms_lineBand() {
        form("", "band 5", 1);
    }

    @Says("| guard N")
    static void terms_lineGuard() {
        form("", "guard 5", 1);
    }

    @Says("| space N")
    static void terms_lineSpace() {
        form("", "space 5", 1);
    }

    @Says("| orders N")
    static void terms_lineOrders() {
        form("", "orders 5", 1);
    }

    @Says("| loss N N N")
    static void terms_lineLoss() {
        form("", "loss 1 2 3", 1);
    }

    @Says("| user W N N N N")
    static void terms_lineUser() {
        form("", "user b 2 5 1 9", 1);
        bad("user 1 2 5 1 9;", 1, 5);
        bad("user b c 5 1 9;", 1, 7);
    }

    @Says("| fixed W N")
    static void terms_lineFixed() {
        form(A, "fixed a 1", 2);
        bad(A + "fixed 1 1;", 1, 21);
        bad(A + "fixed a a;", 1, 23);
    }

    @Says("| block N N")
    static void terms_lineBlock() {
        form("", "block 2 3", 1);
        bad(A + "block a 3;", 1, 21);
    }

    @Says("| link N N N")
    static void terms_lineLink() {
        form("", "link 0 1 5", 1);
    }

    @Says("| slots W N")
    static void terms_lineSlots() {
        form(A, "slots a 1", 2);
        bad(A + "slots 1 1;", 1, 21);
    }

    @Says("| seed N.")
    static void terms_lineSeed() {
        form("", "seed 7", 1);
    }

    @Says("Words: small letters in a row;")
    static void terms_wordsAreSmallLettersInARow() {
        good("user abmnyz 0 0 1 1;", 1);
        for (char sign : new char[] {'A', 'Z', '`', '{', '_', '-', (char) 225, (char) 255, 0}) {
            bad("user " + sign + " 0 0 1 1;", 1, 5);
            bad("user a" + sign + " 0 0 1 1;", 1, 6);
        }
        bad("se ed 1;", 1, 0);
        bad("Seed 1;", 1, 0);
        bad("seeds 1;", 1, 0);
        bad("see 1;", 1, 0);
    }

    @Says("W: one of 1 .. 6 letters,")
    static void terms_aNameHasOneToSixLetters() {
        good("user z 0 0 1 1;", 1);
        good("user zzzzzz 0 0 1 1;", 1);
        bad("user zzzzzzz 0 0 1 1;", 1, 5);
        bad("user bandband 0 0 1 1;", 1, 5);
        bad("user bandban 0 0 1 1;", 1, 5);
        bad(A + "fixed aaaaaaa 1;", 1, 21);
        good("user zzzzzz 0 0 1 1;fixed zzzzzz 1;slots zzzzzz 1;", 3);
    }

    @Says("none of those of the language;")
    static void terms_aNameIsNoWordOfTheLanguage() {
        for (String word : new String[] {"band", "guard", "space", "orders", "loss", "user", "fixed", "block", "link",
            "slots", "seed"}) {
            bad("user " + word + " 0 0 1 1;", 1, 5);
            bad(A + "fixed " + word + " 1;", 1, 21);
            bad(A + "slots " + word + " 1;", 1, 21);
            good("user x" + word.substring(1) + " 0 0 1 1;", 1);
            good("user " + word.substring(1) + " 0 0 1 1;", 1);
            good("user " + word.substring(0, word.length() - 1) + " 0 0 1 1;", 1);
        }
        good("user bandb 0 0 1 1;", 1);
    }

    @Says("N: digits.")
    static void terms_aNumberIsDigits() {
        good("seed 90;", 1);
        for (char sign : new char[] {'/', ':', '-', '+', '.', (char) 176, (char) 185}) {
            bad("seed " + sign + "9;", 1, 5);
            bad("seed 9" + sign + ";", 1, 6);
        }
        bad("seed 0x1;", 1, 6);
        bad("seed 1 2;", 1, 7);
        good("seed " + "0".repeat(600) + "1;", 1);
        bad("seed " + "9".repeat(600) + ";", 2, 5);
    }

    @Says("Blanks 10, 32.")
    static void terms_blanksAreTenAndThirtyTwoAlone() {
        good("", 0);
        good(" ", 0);
        good("\n", 0);
        good("\n seed\n \n1 \n; \n", 1);
        for (int sign = 0; sign < 256; sign++) {
            if (sign == 10 || sign == 32) {
                good("seed" + (char) sign + "1;", 1);
                good((char) sign + "seed 1;" + (char) sign, 1);
            } else {
                bad("seed 1;" + (char) sign, 1, 7);
                if (sign < '0' || sign > '9') {
                    bad((char) sign + " seed 1;", 1, 0);
                }
            }
        }
    }

    // ---- what each LINE may tell

    @Says("band: 4 .. 60 (30);")
    static void terms_bandIsFourToSixty() {
        Run.fresh().due("count 1", 30);
        good("seed 1;", 1).due("count 1", 30);
        good("band 4;", 1).due("count 1", 4);
        good("band 60;", 1).due("count 1", 60);
        bad("band 3;", 2, 5);
        bad("band 61;", 2, 5);
        bad("band 0;", 2, 5);
        bad("band 4294967300;", 2, 5);
        bad("band 18446744073709551620;", 2, 5);
    }

    @Says("it stands ahead of all user, fixed, block.")
    static void terms_bandStandsAheadOfUsersAndBlocksButBehindAllElse() {
        good("guard 1;space 1;orders 1;loss 1 1 1;link 0 1 1;seed 1;band 9;" + A + "fixed a 1;block 1 1;", 10);
        bad(A + "band 9;", 1, 15);
        bad("block 1 1;band 9;", 1, 10);
        bad(A + "fixed a 1;band 9;", 1, 25);
        bad(A + "slots a 1;band 9;", 1, 25);
    }

    @Says("guard: 0 .. 5 (0).")
    static void terms_guardIsZeroToFive() {
        good("seed 1;", 1).due("count 2", 0);
        good("guard 0;", 1).due("count 2", 0);
        good("guard 5;", 1).due("count 2", 5);
        bad("guard 6;", 2, 6);
        bad("guard 4294967296;", 2, 6);
    }

    @Says("space: 1 .. 20 (1).")
    static void terms_spaceIsOneToTwenty() {
        good("seed 1;", 1).due("count 3", 1);
        good("space 1;", 1).due("count 3", 1);
        good("space 20;", 1).due("count 3", 20);
        bad("space 0;", 2, 6);
        bad("space 21;", 2, 6);
    }

    @Says("orders: 0 .. 7 (2).")
    static void terms_ordersAreZeroToSeven() {
        good("seed 1;", 1).due("count 4", 2);
        good("orders 0;", 1).due("count 4", 0);
        good("orders 7;", 1).due("count 4", 7);
        bad("orders 8;", 2, 7);
    }

    /** 7 and 8 with POWERS 10: a PRODUCT of each ORDER, of LEVELS 20, 30 and 50 less LOSS. */
    private static void levels(String loss, int second, int third, int fifth) {
        Run.on("orders 7;user a 0 10 1 30;user b 0 10 1 30;fixed a 7;fixed b 8;" + loss)
                .due("product 0 0", 0).due("product 0 5", second).due("product 2 0", 2).due("product 2 5", third)
                .due("product 4 0", 4).due("product 4 5", fifth);
    }

    @Says("loss: 0 .. 99 each (5, 10, 20).")
    static void terms_lossIsZeroToNinetyNineEach() {
        levels("", 15, 20, 30);
        levels("loss 0 0 0;", 20, 30, 50);
        levels("loss 99 99 99;", -79, -69, -49);
        levels("loss 1 2 3;", 19, 28, 47);
        bad("loss 100 0 0;", 2, 5);
        bad("loss 0 100 0;", 2, 7);
        bad("loss 0 0 100;", 2, 9);
    }

    @Says("user, at most 6:")
    static void terms_sixUsersAndNoSeventh() {
        good(SIX_USERS, 6).due("count 0", 6).due("user 5 2", 1).thrown("IndexOutOfBoundsException", "user 6 0");
        bad(SIX_USERS + "user g 0 0 1 1;", 2, 90);
    }

    @Says("name, SITE 0 .. 2,")
    static void terms_siteIsZeroToTwo() {
        good("user a 0 0 1 1;user b 1 0 1 1;user c 2 0 1 1;", 3).due("user 0 0", 0).due("user 1 0", 1)
                .due("user 2 0", 2);
        bad("user a 3 0 1 1;", 2, 7);
    }

    @Says("POWER 0 .. 30,")
    static void terms_powerIsZeroToThirty() {
        good("user a 0 0 1 1;user b 0 30 1 1;", 2).due("user 0 1", 0).due("user 1 1", 30);
        bad("user a 0 31 1 1;", 2, 9);
    }

    @Says("LOW, HIGH, 1 .. BAND,")
    static void terms_lowAndHighAreOneToBand() {
        good("user a 0 0 1 30;user b 0 0 30 30;", 2).due("user 0 2", 1).due("user 0 3", 30).due("user 1 2", 30);
        good("band 60;user a 0 0 1 60;user b 0 0 60 60;", 3).due("user 0 3", 60).due("user 1 2", 60);
        good("band 4;user a 0 0 1 4;", 2).due("user 0 3", 4);
        bad("user a 0 0 0 1;", 2, 11);
        bad("user a 0 0 0 0;", 2, 11);
        bad("user a 0 0 31 31;", 2, 11);
        bad("user a 0 0 1 31;", 2, 13);
        bad("band 60;user a 0 0 1 61;", 2, 21);
        bad("band 60;user a 0 0 61 61;", 2, 19);
        bad("band 4;user a 0 0 1 5;", 2, 20);
        bad("band 4;user a 0 0 5 5;", 2, 18);
    }

    @Says("LOW no more than HIGH;")
    static void terms_lowIsNoMoreThanHigh() {
        good("user a 0 0 9 9;", 1).due("user 0 2", 9).due("user 0 3", 9);
        good("user a 0 0 9 10;", 1).due("user 0 2", 9).due("user 0 3", 10);
        bad("user a 0 0 9 8;", 2, 13);
        bad("user a 0 0 30 1;", 2, 14);
        bad("user a 0 0 1 0;", 2, 13);
    }

    @Says("numbered from 0 on as they come.")
    static void terms_usersAreNumberedAsTheyCome() {
        good("user z 0 0 1 1;guard 1;user a 0 0 1 1;user m 0 0 1 1;", 4)
                .due("named " + packed("z"), 0).due("named " + packed("a"), 1).due("named " + packed("m"), 2);
    }

    @Says("fixed: a USER's CHANNEL 1 .. BAND.")
    static void terms_fixedIsOneToBandWithinTheStretchOrNot() {
        good(A + "fixed a 1;", 2).channels(1);
        good(A + "fixed a 30;", 2).channels(30);
        good("band 60;" + A + "fixed a 60;", 3).channels(60);
        bad(A + "fixed a 0;", 2, 23);
        bad(A + "fixed a 31;", 2, 23);
        bad("band 60;" + A + "fixed a 61;", 2, 31);
        bad("band 4;" + A + "fixed a 5;", 2, 30);
    }

    @Says("block, at most 6:")
    static void terms_sixBlocksAndNoSeventh() {
        good(SIX_BLOCKS, 6).due("count 5", 6);
        bad(SIX_BLOCKS + "block 7 7;", 2, 60);
        bad(SIX_BLOCKS + "block 1 1;", 2, 60);
        good("block 1 1;block 1 1;block 1 1;block 1 1;block 1 1;block 1 1;", 6).due("count 5", 1);
        bad("block 1 1;block 1 1;block 1 1;block 1 1;block 1 1;block 1 1;block 1 1;", 2, 60);
    }

    @Says("CHANNELS from the first N to the second one, 1 .. BAND, no less, can't be had.")
    static void terms_blockedAreAllFromTheFirstToTheSecond() {
        good("block 3 5;", 1).rowFrom(1, "blocked", 0, 0, 1, 1, 1, 0);
        good("block 4 4;", 1).rowFrom(1, "blocked", 0, 0, 0, 1, 0);
        good("block 1 30;", 1).due("count 5", 30).due("blocked 1", 1).due("blocked 30", 1);
        good("band 60;block 60 60;block 1 1;", 3).due("count 5", 2).due("blocked 60", 1).due("blocked 59", 0);
        good("block 2 4;block 3 5;", 2).due("count 5", 4);
        bad("block 0 1;", 2, 6);
        bad("block 31 31;", 2, 6);
        bad("block 1 31;", 2, 8);
        bad("block 1 0;", 2, 8);
        bad("block 5 4;", 2, 8);
        bad("band 60;block 1 61;", 2, 16);
        bad("band 4;block 1 5;", 2, 15);
        bad("band 4;block 5 5;", 2, 13);
        good("user a 0 0 3 5;block 3 4;", 2).due("free 0", 1).due("freeAt 0 0", 5);
    }

    @Says("link: of two unlike SITES its LOSS 0 .. 99 (without: none).")
    static void terms_linkHasALossOfZeroToNinetyNine() {
        good("link 0 1 0;link 2 0 99;", 2).due("linked 0 1", 0).due("linked 0 2", 99).due("linked 1 2", -2);
        bad("link 0 1 100;", 2, 9);
        bad("link 3 1 1;", 2, 5);
        bad("link 0 3 1;", 2, 7);
    }

    @Says("slots: of a USER 1 .. 255, bits (255).")
    static void terms_slotsAreOneToTwoHundredFiftyFive() {
        good(A + B + "slots b 1;", 3).due("user 0 6", 255).due("user 1 6", 1);
        good(A + "slots a 255;", 2).due("user 0 6", 255);
        bad(A + "slots a 0;", 2, 23);
        bad(A + "slots a 256;", 2, 23);
    }

    @Says("seed: 0 .. 99999 (0).")
    static void terms_seedIsZeroToNinetyNineThousand() {
        // From 0 on the first CHANNEL drawn of 30 is 1, from 1 on (1103527590 / 65536 = 16838) it is 9.
        good("user a 0 0 1 30;fixed a 1;", 2).due("chance -1 1 1", 1);
        good("seed 0;user a 0 0 1 30;fixed a 1;", 3).due("chance -1 1 1", 1);
        good("seed 1;user a 0 0 1 30;fixed a 9;", 3).due("chance -1 1 1", 1).due("tune 0 1", 9).due("chance -1 1 1", 0);
        good("seed 00001;user a 0 0 1 30;fixed a 9;", 3).due("chance -1 1 1", 1);
        // 99999 * 1103515245 + 12345 modulo 2147483648 is 1973744620, by 65536 it is 30116: 26 of 30, and 1.
        good("seed 99999;user a 0 0 1 30;fixed a 27;", 3).due("chance -1 1 1", 1).due("chance 99999 1 1", 1);
        bad("seed 100000;", 2, 5);
        bad("seed 4294967296;", 2, 5);
        bad("seed 999999999999999999999999;", 2, 5);
    }

    // ---- FAULTS

    @Says("FAULTS, the first along the text")
    static void terms_theFirstFaultAlongTheTextCounts() {
        bad("guard 9;band 3;", 2, 6);
        bad("fixed a 1;guard 9;", 4, 6);
        bad("guard 9 @;", 2, 6);
        bad("guard 9", 2, 6);
        bad("seed 1;seed 100000;", 3, 7);
        bad("link 0 0 100;", 2, 7);
        bad("link 3 3 100;", 2, 5);
        bad("user a 3 31 0 0;", 2, 7);
        bad("user a 0 31 0 0;", 2, 9);
        bad("user a 0 0 31 0;", 2, 11);
        bad(A + "user a 3 0 1 1;", 3, 20);
        bad(A + "fixed a 1;fixed a 31;", 3, 31);
        bad("guard 1;@guard 1;guard 1;", 1, 8);
    }

    @Says("(of one place the least),")
    static void terms_ofTwoFaultsOfOnePlaceTheLeastCounts() {
        bad("band 9;" + A + "band 9;", 1, 22);
        bad("band 9;block 1 1;band 9;", 1, 17);
        bad("fixed band 1;", 1, 6);
        bad("slots seed 1;", 1, 6);
        bad("fixed abcdefg 1;", 1, 6);
    }

    @Says("with its place:")
    static void terms_aFaultsPlaceCountsBytesFromZeroOn() {
        bad("@", 1, 0);
        bad(" @", 1, 1);
        bad("\n\n  @", 1, 4);
        bad(" ".repeat(699) + "@", 1, 699);
        bad(" ".repeat(600) + "guard  9;", 2, 607);
    }

    @Says("1 a TOKEN that is none")
    static void terms_fault1AtATokenThatIsNone() {
        bad("seed 1;\t", 1, 7);
        bad("seed\t1;", 1, 4);
        bad("seed 1,", 1, 6);
        bad("seed \"1\";", 1, 5);
        bad("seed 1" + (char) 160 + ";", 1, 6);
    }

    @Says("(a word of more than 6 letters that isn't of the language, too)")
    static void terms_fault1AtAWordOfSevenLetters() {
        bad("abcdefg", 1, 0);
        bad("ordersx 1;", 1, 0);
        bad("seed abcdefg;", 1, 5);
        bad("user abcdefg 0 0 1 1;", 1, 5);
        bad("seed 1 abcdefg;", 1, 7);
        bad("user " + "a".repeat(690), 1, 5);
    }

    @Says("or can't stand there")
    static void terms_fault1AtATokenThatCantStandThere() {
        bad("1;", 1, 0);
        bad("a 1;", 1, 0);
        bad("abcdef 1;", 1, 0);
        bad("seed seed;", 1, 5);
        bad("seed ;", 1, 5);
        bad("seed 1 seed 1;", 1, 7);
        bad("user ;", 1, 5);
        bad("user 5 0 0 1 1;", 1, 5);
        bad("user a b 0 1 1;", 1, 7);
    }

    @Says("(the length, if more must come;")
    static void terms_fault1AtTheLengthIfMoreMustCome() {
        bad("seed", 1, 4);
        bad("seed 1", 1, 6);
        bad("seed 1 ", 1, 7);
        bad("seed 1\n\n\n", 1, 9);
        bad("user", 1, 4);
        bad("user ab", 1, 7);
        bad("loss 1 2", 1, 8);
        // The length of the TEXT, not of the TAPE, which has more.
        Run.fresh().feed("seed 123456;").due("text 8", -1).due("fault 0", 1).due("fault 1", 8);
        Run.fresh().feed("seed 123456;").due("text 5", -1).due("fault 0", 1).due("fault 1", 5);
        Run.fresh().feed("seed 123456;").due("text 4", -1).due("fault 0", 1).due("fault 1", 4);
        Run.fresh().feed("seed 123456;").due("text 3", -1).due("fault 0", 1).due("fault 1", 0);
    }

    @Says("band behind user, fixed, block).")
    static void terms_fault1AtABandThatComesTooLate() {
        bad(A + "band 9;", 1, 15);
        bad(A + "band", 1, 15);
        bad("block 1 1;band 99;", 1, 10);
        bad(A + "fixed a 1;band 9;", 1, 25);
    }

    @Says("2 too much (at it): a number beyond what is said,")
    static void terms_fault2AtANumberBeyondWhatIsSaid() {
        bad("guard   6;", 2, 8);
        bad("space 0 ;", 2, 6);
        bad("loss 0 0 100;", 2, 9);
        bad("loss 0 0 100", 2, 9);
        bad("guard 2147483648;", 2, 6);
        bad("guard 4294967297;", 2, 6);
        bad("guard 10000000000;", 2, 6);
        bad("guard 18446744073709551617;", 2, 6);
        good("guard 000000000000000000005;", 1).due("count 2", 5);
    }

    @Says("a seventh user, a seventh block (at the word of the LINE),")
    static void terms_fault2AtTheWordOfASeventhLine() {
        bad(SIX_USERS + "user", 2, 90);
        bad(SIX_USERS + "user a 0 0 1 1;", 2, 90);
        bad(SIX_USERS + "  user band;", 2, 92);
        bad(SIX_BLOCKS + "block", 2, 60);
        bad(SIX_BLOCKS + "\nblock 0 0;", 2, 61);
        bad(SIX_BLOCKS + SIX_USERS + "block 1 1;", 2, 150);
        bad(SIX_BLOCKS + SIX_USERS + "user g 0 0 1 1;", 2, 150);
        good(SIX_BLOCKS + SIX_USERS, 12);
    }

    @Says("a link of a SITE with itself (at the second N).")
    static void terms_fault2AtTheSecondSiteOfALinkWithItself() {
        bad("link 0 0 1;", 2, 7);
        bad("link 1  1 1;", 2, 8);
        bad("link 2 2", 2, 7);
        bad("link 2 2 100;", 2, 7);
    }

    @Says("3 told already: a name (at W),")
    static void terms_fault3AtANameToldAlready() {
        bad(A + "user a 0 0 1 1;", 3, 20);
        bad(A + B + "user  a", 3, 36);
        good("user a 0 0 1 1;user aa 0 0 1 1;user aaa 0 0 1 1;user ba 0 0 1 1;", 4);
        bad("user abcdef 0 0 1 1;user abcdef 0 0 1 1;", 3, 25);
        good("user abcdef 0 0 1 1;user abcdeg 0 0 1 1;user bbcdef 0 0 1 1;", 3);
    }

    @Says("fixed, slots of a USER (at W),")
    static void terms_fault3AtAUserFixedOrGivenSlotsAlready() {
        bad(A + "fixed a 1;fixed a 1;", 3, 31);
        bad(A + "slots a 1;slots a 1;", 3, 31);
        bad(A + B + "fixed b 1;fixed a 1;fixed b", 3, 56);
        bad(A + B + "slots b 1;slots a 1;slots b", 3, 56);
        good(A + B + "fixed a 1;slots a 1;fixed b 1;slots b 1;", 6);
        bad(A + "slots a 255;slots a 255;", 3, 33);
    }

    @Says("link of two SITES (at the second N),")
    static void terms_fault3AtTheSecondSiteOfALinkToldAlready() {
        bad("link 0 1 5;link 0 1 5;", 3, 18);
        bad("link 0 1 5;link 1 0 5;", 3, 18);
        bad("link 0 1 99;link 1 0", 3, 19);
        bad("link 2 1 0;link 1 2 0;", 3, 18);
        bad("link 0 2 0;link 2 0 100;", 3, 18);
        good("link 0 1 5;link 1 2 5;link 2 0 5;", 3);
    }

    @Says("band, guard, space, orders, loss, seed (at the word).")
    static void terms_fault3AtTheWordOfALineToldAlready() {
        for (String line : new String[] {"band 9;", "guard 1;", "space 1;", "orders 1;", "loss 1 1 1;", "seed 1;"}) {
            bad(line + line, 3, line.length());
            bad(line + " \n" + line.substring(0, line.indexOf(' ')), 3, line.length() + 2);
            for (String other : new String[] {"band 9;", "guard 1;", "space 1;", "orders 1;", "loss 1 1 1;", "seed 1;"}) {
                if (!other.equals(line)) {
                    good(other + line, 2);
                    bad(line + other + line, 3, line.length() + other.length());
                }
            }
        }
    }

    @Says("4 a USER that isn't told ahead (at W).")
    static void terms_fault4AtAUserThatIsntToldAhead() {
        bad("fixed a 1;", 4, 6);
        bad("slots a 1;", 4, 6);
        bad("fixed  a", 4, 7);
        bad("fixed a 1;" + A, 4, 6);
        bad(A + "fixed b 1;" + B, 4, 21);
        bad(A + "slots aa 1;", 4, 21);
        bad("user aa 0 0 1 1;slots a 1;", 4, 22);
        good(A + "fixed a 1;slots a 1;", 3);
    }

    // ---- promise 1

    @Says("No USERS;")
    static void p01_aNewObjectHasNoUsers() {
        Run.fresh().due("count 0", 0).due("count 6", 0).thrown("IndexOutOfBoundsException", "user 0 0")
                .due("named 0", -1).due("tune 0 1", -1).due("count 7", 0).due("undo", -1).due("back", -1);
        Run.fresh().row("count", 0, 30, 0, 1, 2, 0, 0, 0, 0, -1).due("fault 0", 0).due("fault 1", -1);
        Run.fresh().due("products 0", 0).due("clean", 1).due("linked 0 1", -2).due("chance -1 20 0", 0);
    }

    @Says("an empty TAPE.")
    static void p01_aNewObjectsTapeIsEmpty() {
        Run.fresh().due("count 8", 0).due("text 1", -2).due("text 0", 0);
        Run.fresh().due("feed 0 0 0 0 0", 20);
    }

    // ---- promise 2

    @Says({"Twenty bytes come behind the TAPE, four of each number, the highest first:", "how many it has;"})
    static void p02_twentyBytesComeTheHighestOfEachNumberFirst() {
        // "guard 5;space 2;    " as five numbers, then "seed 1" and "1;" over two feeds.
        Run.fresh().due("feed 1735745906 1679832379 1936744803 1696608827 538976288", 20).due("count 8", 20)
                .due("text 20", 2).due("count 2", 5).due("count 3", 2);
        Run.fresh().feed(" ".repeat(14) + "seed 1").feed("1;").due("count 8", 40).due("text 22", 1)
                .due("fault 0", 0);
        // Bytes of 128 and more are no TOKENS, wherever they stand in a number.
        Run.fresh().due("feed -1 0 0 0 0", 20).due("text 1", -1).due("fault 1", 0);
        Run.fresh().due("feed 538976511 0 0 0 0", 20).due("text 4", -1).due("fault 1", 3);
        Run.fresh().due("feed 538976288 538976288 538976288 538976288 MIN", 20).due("text 20", -1).due("fault 1", 16);
        Run.fresh().due("feed 538976288 538976288 538976288 538976288 538976256", 20).due("text 20", -1)
                .due("fault 1", 19);
        Run.fresh().due("feed MAX MIN 0 -1 1", 20).due("feed MAX MIN 0 -1 1", 40);
    }

    @Says("NONE, and none come, if it would have more than 700.")
    static void p02_sevenHundredBytesAndNoneMore() {
        // 35 feeds fill it; its last two bytes, 698 and 699, are "1;".
        Run run = Run.fresh();
        String full = " ".repeat(693) + "seed 1;";
        run.feed(full.substring(0, 680)).due("count 8", 680).feed(full.substring(680)).due("count 8", 700);
        run.due("feed 0 0 0 0 0", -1).due("count 8", 700).due("feed MAX MIN -1 1 0", -1).due("count 8", 700);
        run.due("text 701", -2).due("text 720", -2).due("text 700", 1).due("count 8", 0);
        run.due("feed 0 0 0 0 0", 20);
        for (int bytes = 20; bytes <= 700; bytes += 20) {
            run.due("count 8", bytes).due("feed 0 0 0 0 0", bytes < 700 ? bytes + 20 : -1);
        }
    }

    // ---- promise 3

    @Says("The TAPE's first n bytes")
    static void p03_onlyTheFirstNBytesAreTheText() {
        Run.fresh().feed("guard 5;guard 4;").due("text 8", 1).due("count 2", 5);
        Run.fresh().feed("guard 5;guard 4;").due("text 16", -1).due("fault 0", 3);
        Run.fresh().feed("band 44;").due("text 8", 1).due("count 1", 44);
        Run.fresh().feed("band 44;").due("text 0", 0).due("count 1", 30);
        Run.fresh().feed("a").due("text 1", -1).due("fault 1", 0);
    }

    @Says("(it is empty then)")
    static void p03_theTapeIsEmptyBehindAText() {
        Run.fresh().feed("guard 5;seed 1;").due("text 8", 1).due("count 8", 0).due("text 1", -2).due("text 0", 0);
        Run.fresh().feed("guard 5;seed 1;").due("text 0", 0).due("count 8", 0);
        Run.fresh().feed("guard 9;seed 1;").due("text 8", -1).due("count 8", 0).due("text 1", -2);
        Run.fresh().feed("guard 5;").due("text 8", 1).feed("space 5;").due("count 8", 20).due("text 8", 1)
                .due("count 2", 0).due("count 3", 5);
    }

    @Says("are the TEXT (CHANNELS as fixed,")
    static void p03_aTextsChannelsAreAsFixed() {
        Run.on(A + B + "fixed b 9;").channels(0, 9).due("count 6", 1).due("tune 0 3", 0).due("tune 1 4", 9)
                .tell(A + B + "fixed a 8;", 3).channels(8, 0).due("count 6", 1);
        Run.on("guard 5;space 5;orders 5;block 1 5;link 0 1 5;" + A).due("block 9", 1).due("text 0", 0)
                .row("count", 0, 30, 0, 1, 2, 0, 0, 0, 0).due("linked 0 1", -2).due("named " + packed("a"), -1);
    }

    @Says("no IMAGE,")
    static void p03_behindATextThereIsNoImage() {
        Run.on(A).due("keep", 0).due("back", 0).tell(A, 1).due("back", -1);
        Run.on(A).due("keep", 0).due("text 0", 0).due("back", -1);
    }

    @Says("nothing to undo):")
    static void p03_behindATextThereIsNothingToUndo() {
        Run.on(A).due("tune 0 1", 0).due("count 7", 1).tell(A, 1).due("count 7", 0).due("undo", -1).channels(0);
        Run.on(A).due("tune 0 1", 0).due("text 0", 0).due("count 7", 0).due("undo", -1).due("count 0", 0);
    }

    @Says("how many LINES;")
    static void p03_aTextAnswersHowManyLines() {
        good("", 0);
        good("\n", 0);
        good("seed 1;", 1);
        good(SIX_USERS + SIX_BLOCKS + "guard 1;space 1;orders 1;loss 1 1 1;seed 1;link 0 1 1;", 18);
        good("band 60;guard 1;space 1;orders 1;loss 1 1 1;seed 1;link 0 1 1;link 0 2 1;link 1 2 1;" + SIX_BLOCKS
                + SIX_USERS + "fixed a 1;fixed b 1;fixed c 1;fixed d 1;fixed e 1;fixed f 1;"
                + "slots a 1;slots b 1;slots c 1;slots d 1;slots e 1;slots f 1;", 33);
    }

    @Says("NONE with a FAULT, all else stays;")
    static void p03_aTextWithAFaultChangesNothingElse() {
        Run run = Run.on("band 20;guard 2;space 3;orders 5;block 2 4;user a 1 5 2 9;fixed a 7;slots a 9;link 1 0 8;");
        run.due("keep", 1).due("tune 0 8", 7).due("power 0 6", 5);
        run.tell("band 10;guard 1;space 1;orders 1;link 1 0 9;link 0 2 1;user b 0 0 1 1;block 9 9;fixed b 3;@", -1);
        run.due("fault 0", 1).due("fault 1", 90).row("count", 1, 20, 2, 3, 5, 3, 1, 2, 0);
        run.row("user 0", 1, 6, 2, 9, 8, 1, 9).due("named " + packed("a"), 0).due("named " + packed("b"), -1);
        run.due("linked 0 1", 8).due("linked 0 2", -2).due("blocked 9", 0).due("undo", 1).due("undo", 0).channels(7);
        run.due("tune 0 3", 7).due("back", 1).channels(7);
        // With a FAULT of each of the other sorts, too, behind what was told rightly.
        Run.on("guard 1;").tell("guard 2;space 0;", -1).due("count 2", 1);
        Run.on("guard 1;").tell("guard 2;guard 3;", -1).due("count 2", 1);
        Run.on("guard 1;").tell("guard 2;fixed a 1;", -1).due("count 2", 1);
    }

    @Says("-2, and the TAPE stays: there are not so many,")
    static void p03_aTextOfMoreBytesThanThereAreIsRefused() {
        Run.fresh().refused(-2, "text #", 1, 20, 700, 701, Run.BIG).due("text 0", 0);
        Run.on("guard 1;").feed("guard 2;").refused(-2, "text #", 21, 40, 700, Run.BIG)
                .due("count 8", 20).due("count 2", 1).due("text 20", 1).due("count 2", 2);
    }

    @Says("n is below 0.")
    static void p03_aTextOfFewerThanNoBytesIsRefused() {
        Run.on("guard 1;").feed("guard 2;").refused(-2, "text #", -1, -2, -20, Run.SMALL)
                .due("count 8", 20).due("count 2", 1).due("text 8", 1).due("count 2", 2);
    }

    // ---- promise 4

    @Says({"Of the latest text() that was not -2,", "what 0: its FAULT (0),"})
    static void p04_faultIsOfTheLatestTextThatWasRead() {
        Run run = Run.fresh().due("fault 0", 0).tell("guard 6;", -1).due("fault 0", 2).due("fault 1", 6);
        run.due("text 1", -2).due("fault 0", 2).due("fault 1", 6).due("text -1", -2).due("fault 0", 2);
        run.tell("fixed a 1;", -1).due("fault 0", 4).tell("seed 1;seed 1;", -1).due("fault 0", 3);
        run.tell("@", -1).due("fault 0", 1).due("fault 1", 0).tell("seed 1;", 1).due("fault 0", 0).due("fault 1", -1);
        run.due("text 700", -2).due("fault 0", 0).due("fault 1", -1);
        // Nothing but a text changes it.
        Run.fresh().tell("guard 6;", -1).feed("seed 1;").due("block 1", 1).due("undo", 0).due("keep", 0).due("back", 0)
                .due("complete", 0).due("mend", 0).due("fault 0", 2).due("fault 1", 6);
    }

    @Says("1: its place (NONE without).")
    static void p04_aFaultsPlaceIsNoneWithoutAFault() {
        Run.fresh().due("fault 1", -1).due("text 0", 0).due("fault 1", -1).tell(";", -1).due("fault 1", 0)
                .tell("seed 1", -1).due("fault 1", 6).tell("seed 1;", 1).due("fault 1", -1);
    }

    @Says("NONE for another what.")
    static void p04_anotherWhatIsNone() {
        Run.fresh().tell("guard 6;", -1).refused(-1, "fault #", -1, 2, 3, Run.BIG, Run.SMALL);
    }

    // ---- promise 5

    private static int packed(String name) {
        int code = 0;
        for (int i = 0; i < 6; i++) {
            code = code * 32 + (i < name.length() ? name.charAt(i) - 'a' + 1 : 0);
        }
        return code;
    }

    @Says({"A USER by its letters, 5 bits each", "(a is 1; the first one highest of six, 0 behind the last one):",
        "its number;"})
    static void p05_aNameIsSixTimesFiveBits() {
        // a: 1 * 2^25; z: 26 * 2^25; ab: 1 * 2^25 + 2 * 2^20; zzzzzz: 26 of each of the six powers of 32.
        Run.on("user a 0 0 1 1;user z 0 0 1 1;user ab 0 0 1 1;user zzzzzz 0 0 1 1;user abcdef 0 0 1 1;")
                .due("named 33554432", 0).due("named 872415232", 1).due("named 35651584", 2)
                .due("named 900557658", 3).due("named 35754150", 4);
    }

    @Says("NONE: there is none such.")
    static void p05_aNameThatIsNoUsersIsNone() {
        Run.fresh().refused(-1, "named #", 0, 33554432, Run.BIG, Run.SMALL, -1);
        // b; a at the lowest place; nothing; ac; a with the bits 30 and 31; 27 and 31, which are no letters; 0 amid letters.
        Run.on("user a 0 0 1 1;user ab 0 0 1 1;").refused(-1, "named #", 67108864, 1, 0, 36700160,
                33554432 + (1 << 30), 33554432
                        + Run.SMALL, 27 << 25, 31 << 25, 1 << 25 | 2 << 15, Run.BIG, Run.SMALL, -1)
                .due("named 33554432", 0);
    }
}
