/** The sentences on what FITS, SEARCH, MEND, LEAST BAND and ROWS: Terms' parts 2 and 3, promises 20 to 27 and 39. */
public final class EdgePlanTest {
    /** LEVEL 1 each; a and b are c's 10, c less a is b's 6, c less b is a's 4. */
    private static final String SECOND = "orders 1;user a 0 3 1 30;user b 0 3 1 30;user c 0 3 1 30;"
            + "fixed a 4;fixed b 6;fixed c 10;";
    private static final String PAIR = "band 10;orders 0;user a 0 0 1 10;user b 0 0 1 10;";
    /** Behind 15 BLOCKED ones a takes 37: 16 LOOKS; b and c take 422, d and e 162: 600 in all. */
    private static final String LONG = "band 60;orders 0;space 20;block 22 36;user a 0 0 22 37;user b 1 0 1 60;"
            + "user c 1 0 1 20;user d 2 0 1 60;user e 2 0 1 7;";
    /** f looks at 60 with the 601st LOOK. */
    private static final String TOO_LONG = LONG + "user f 0 0 60 60;";
    /** b has 1 .. 23 and c, of its SITE, 8 .. 19, which is never 20 away: 299 LOOKS for each of a's CHANNELS, and a's own. */
    private static final String NEVER = "band 60;orders 0;space 20;user b 1 0 1 23;user c 1 0 8 19;";

    public static void main(String[] args) {
        Edges.run(EdgePlanTest.class);
    }

    /**
     * z is on 31, so x and y, 20 away from it and from each other, must be 51 and 1: of x's 1 .. 11 each is looked at
     * with all of y's, 12 .. 50 by themselves, so that y's 50 makes 600 LOOKS ahead of x's 51, y's 48 makes 578.
     */
    private static String trio(String z, int mostOfY) {
        return "band 60;orders 0;space 20;block 60 60;" + z + "user x 0 0 1 60;user y 0 0 1 " + mostOfY + ";";
    }

    // ---- FITS and SEARCH

    @Says("A CHANNEL FITS a USER without one: all that have one and it would be CLEAN with it.")
    static void terms_aChannelFitsIfAllIsCleanWithIt() {
        // Beside 4 and 6 c can't have these, nor 10 and 2, which they make and by which it makes theirs.
        Run.on(SECOND).rowFrom(1, "fits 2", 1, 0, 1, 0, 1, 0, 1, 1, 1, 0, 1);
        // It is hit by none and makes none hit, but d is hit by what it makes: 4 and 5 are 9.
        Run.on("orders 1;user a 0 3 1 30;user c 0 3 1 30;user d 1 3 1 30;link 0 1 0;fixed a 4;fixed d 9;")
                .rowFrom(4, "fits 1", 0, 0, 1).due("fits 1 13", 0).due("fits 1 14", 1);
        // Not BLOCKED, of its stretch, not too near.
        Run.on("orders 0;space 3;user a 0 0 5 20;user b 0 0 1 30;block 8 8;fixed b 12;")
                .rowFrom(4, "fits 0", 0, 1, 1, 1, 0, 1, 0, 0,
                0, 0, 0, 1).due("fits 0 20", 1).due("fits 0 21", 0);
        // What isn't CLEAN by the others isn't with it.
        Run.on("orders 0;user a 0 0 1 1;user b 1 0 1 9;fixed a 2;").due("fits 1 5", 0).due("free 1", 0)
                .due("complete", -2);
        // 10 less 8 is 2, of LEVEL 4 less LOSS; twice 10 less 8 is 12, of 6; three times 10 less twice 8 is 14, of 10.
        String losses = "orders 7;user a 0 2 1 30;user b 0 2 1 30;user c 0 2 1 30;fixed a 10;fixed b 8;loss ";
        Run.on(losses + "4 7 11;").due("fits 2 2", 0).due("fits 2 12", 1).due("fits 2 14", 1);
        Run.on(losses + "5 6 11;").due("fits 2 2", 1).due("fits 2 12", 0).due("fits 2 14", 1);
        Run.on(losses + "5 7 10;").due("fits 2 2", 1).due("fits 2 12", 1).due("fits 2 14", 0);
    }

    @Says("SEARCH for some USERS, without CHANNELS now, all others as they are:")
    static void terms_searchLeavesAllOthersAsTheyAre() {
        Run.on(PAIR).due("tune 1 1", 0).due("planned 0", 2).due("complete", 2).channels(2, 1);
        Run.on("orders 0;user a 0 0 1 1;user b 0 0 1 1;fixed b 1;").due("planned 0", -2).due("complete", -2)
                .channels(0, 1);
        // With a set that must go, the others keep theirs and those without stay without.
        Run.on("orders 0;user a 0 0 1 9;user b 0 0 1 9;user c 0 0 1 9;fixed b 3;fixed c 3;").due("mend", 2)
                .channels(0, 1, 3);
    }

    @Says("by numbers, each takes the least CHANNEL of LOW .. HIGH that FITS;")
    static void terms_searchTakesTheLeastOfTheStretchByNumbers() {
        Run.on("orders 0;user a 0 0 5 9;user b 0 0 4 9;user c 0 0 1 9;").due("complete", 3).channels(5, 4, 1);
        Run.on("orders 0;user a 0 0 5 9;block 5 8;").due("complete", 5).channels(9);
        Run.on("orders 0;user a 0 0 5 9;block 5 9;").due("complete", -2);
        Run.on("orders 0;user a 0 0 1 9;user b 0 0 1 9;user c 0 0 1 9;").due("complete", 6).channels(1, 2, 3);
        Run.on("band 60;orders 0;user a 0 0 60 60;").due("complete", 1).channels(60);
    }

    @Says("if there is none, it has none, and the one ahead goes on with those behind its own.")
    static void terms_searchGoesBackToTheOneAhead() {
        Run.on("orders 0;user a 0 0 1 2;user b 0 0 1 1;").due("complete", 4).channels(2, 1);
        // Two steps back: a 1, b 1 2, c 1 2; a 2, b 1, c 1 2, b 2; a 3, b 1, c 1 2.
        Run.on("orders 0;user a 0 0 1 3;user b 0 0 1 2;user c 0 0 1 2;").due("complete", 14).channels(3, 1, 2);
        // Back over a USER between that has a CHANNEL of its own.
        Run.on("orders 0;user a 0 0 1 2;user m 1 0 1 9;user b 0 0 1 1;fixed m 7;").due("complete", 4).channels(2, 7, 1);
        // The one ahead, b, has another, that is of no use to c; then a has.
        Run.on("orders 0;user a 0 0 1 2;user b 1 0 1 2;user c 0 0 1 1;").due("complete", 8).channels(2, 1, 1);
    }

    @Says("Each CHANNEL that is looked at (BLOCKED ones, too) is a LOOK;")
    static void terms_eachChannelLookedAtIsALook() {
        Run.on("orders 0;user a 0 0 5 9;").due("complete", 1);
        Run.on("orders 0;user a 0 0 5 9;block 5 7;").due("complete", 4).channels(8);
        Run.on("orders 0;user a 0 0 5 9;block 1 4;block 6 9;").due("complete", 1).channels(5);
        // Those that are too near or hit count as well: c looks at 1, and at 2 beside 1 and 3.
        Run.on("orders 1;loss 0 0 0;user a 0 0 1 9;user b 0 0 3 9;user c 0 0 1 9;").due("complete", 7)
                .channels(1, 3, 5);
        Run.on(LONG).due("complete", 600);
    }

    @Says("behind 600 LOOKS, if it would look at another one, it GIVES UP.")
    static void terms_searchGivesUpAtThe601stLook() {
        Run.on(LONG).due("planned 4", 1).due("complete", 600);
        Run.on(TOO_LONG).due("planned 4", -3).due("complete", -3);
        Run.on(TOO_LONG.replace("block 22 36", "block 22 35")).due("complete", 600).channels(36, 21, 1, 21, 1, 60);
        // 600 LOOKS and none left to look at: it finds nothing, and doesn't give up.
        Run.on(NEVER + "user a 0 0 1 2;").due("complete", -2);
        Run.on(NEVER.replace("user b", "user a 0 0 1 2;user b")).due("complete", -2);
        Run.on(NEVER.replace("user b", "user a 0 0 1 3;user b")).due("complete", -3);
        // c's 19 are all BLOCKED: with b's 30 there are 600, and one more with a's.
        String shut = "user b 1 0 1 30;user c 1 0 31 49;";
        Run.on("band 60;orders 0;block 31 49;" + shut).due("complete", -2);
        Run.on("band 60;orders 0;block 31 49;user a 0 0 1 1;" + shut).due("complete", -3);
        Run.on("band 60;orders 0;block 31 49;user a 0 0 1 1;" + shut.replace("31 49", "31 48")).due("complete", -2);
    }

    @Says("For no USERS it finds, if all is CLEAN, else nothing.")
    static void terms_searchForNoUsersFindsIfAllIsClean() {
        Run.fresh().due("complete", 0).due("mend", 0).due("leastBand", 4);
        Run.on(PAIR + "fixed a 5;fixed b 6;").due("complete", 0).due("spare 0", 9);
        Run.on(PAIR + "fixed a 5;fixed b 5;").due("complete", -2);
        Run.on(SECOND).due("complete", -2).due("tune 2 11", 10).due("complete", 0);
    }

    // ---- MEND

    @Says("MEND: of all sets of USERS with CHANNELS the one with the fewest,")
    static void terms_mendTakesTheFewest() {
        // c alone is one; a and b, who have no SLOT in common, are two and the lesser number.
        Run.on("orders 0;user a 0 0 1 9;user b 0 0 1 9;user c 0 0 1 9;slots a 1;slots b 2;fixed a 5;fixed b 5;fixed c 5;")
                .due("mended", 4);
        // b has no CHANNEL and gets none.
        Run.on("orders 0;user a 0 0 1 9;user b 0 0 1 9;user c 0 0 1 9;fixed a 5;fixed c 5;").due("mend", 1)
                .channels(1, 0, 5);
        // u, which has none, is in no set, though with it on 6, where it keeps x from looking on, SEARCH would find.
        Run.on(trio("user z 0 0 31 31;user u 0 0 6 6;", 50)
                + "fixed z 31;fixed x 60;fixed y 55;slots u 1;slots x 3;slots y 2;")
                .idle("mended", -2).due("tune 1 6", 0).due("mended", 12);
        Run.on(trio("user u 0 0 6 6;user z 0 0 31 31;", 50)
                + "fixed z 31;fixed x 60;fixed y 55;slots u 1;slots x 3;slots y 2;")
                .idle("mended", -2).due("tune 0 6", 0).due("mended", 12);
        // All six must go.
        Run.on("orders 0;user a 0 0 1 1;user b 0 0 2 2;user c 0 0 3 3;user d 0 0 4 4;user e 0 0 5 5;user f 0 0 6 6;"
                + "fixed a 2;fixed b 3;fixed c 4;fixed d 5;fixed e 6;fixed f 1;").due("mend", 63)
                .channels(1, 2, 3, 4, 5, 6);
    }

    @Says("of several the least as a number,")
    static void terms_mendTakesTheLeastOfAlikeMany() {
        Run.on(PAIR + "fixed a 5;fixed b 5;").due("mended", 1);
        Run.on("orders 0;user a 0 0 1 9;user b 0 0 1 9;user c 0 0 1 9;fixed a 5;fixed b 5;fixed c 5;").due("mended", 3);
        // a can't go: of b and c with another the least is 6.
        Run.on("orders 0;user a 0 0 5 5;user b 0 0 1 9;user c 0 0 1 9;user d 0 0 1 9;fixed a 5;fixed b 5;fixed c 5;fixed d 9;")
                .due("mended", 6);
        // b must go, and a or d with it: 3 is less than 10.
        Run.on("orders 0;user a 0 0 1 9;user b 0 0 1 9;user d 0 0 1 9;fixed b 10;fixed a 5;fixed d 5;")
                .due("mended", 3);
    }

    @Says("by which, without their CHANNELS, SEARCH for them finds")
    static void terms_mendsSetIsOneThatSearchFindsFor() {
        Run.on("orders 0;user a 0 0 5 5;user b 0 0 1 9;fixed a 5;fixed b 5;").due("mend", 2).channels(5, 1);
        Run.on("orders 0;user a 0 0 1 1;user b 0 0 2 2;fixed a 2;fixed b 1;").due("mend", 3).channels(1, 2);
        Run.on("orders 0;user a 0 0 1 1;user b 0 0 1 1;fixed a 1;fixed b 1;").due("mended", -2);
        Run.on(SECOND).due("mend", 1).channels(1, 6, 10).due("clean", 1);
    }

    @Says("(the empty one, if all is CLEAN);")
    static void terms_mendsSetIsEmptyIfAllIsClean() {
        Run.on(PAIR + "fixed a 5;fixed b 6;").due("mended", 0).due("mend", 0);
        Run.on(PAIR).due("mended", 0).due("mend", 0).channels(0, 0);
    }

    @Says("those that GIVE UP find nothing.")
    static void terms_setsThatGiveUpAreNoneOfMends() {
        // x, on a BLOCKED one, and y, above its HIGH, must both go; z need not, but without it SEARCH gives up.
        String z = "user z 0 0 1 60;";
        Run.on(trio(z, 50) + "fixed z 31;fixed x 60;fixed y 55;").due("mended", 7).due("mend", 7).channels(1, 21, 41);
        Run.on(trio(z, 48) + "fixed z 31;fixed x 60;fixed y 55;").due("mended", 6).due("mend", 6).channels(31, 51, 1);
        // z can't go: none is left.
        Run.on(trio("user z 0 0 31 31;", 50) + "fixed z 31;fixed x 60;fixed y 55;").due("mended", -2).idle("mend", -2);
    }

    // ---- LEAST BAND

    @Says("LEAST BAND: the least n 4 .. 60 such that SEARCH for all USERS (none has a CHANNEL) finds,")
    static void terms_leastBandIsFourToSixty() {
        Run.fresh().due("leastBand", 4);
        Run.on("user a 0 0 1 1;").due("leastBand", 4);
        Run.on("user a 0 0 4 30;").due("leastBand", 4);
        Run.on("user a 0 0 5 30;").due("leastBand", 5);
        Run.on("band 60;user a 0 0 59 60;").due("leastBand", 59).due("block 59", 1).due("leastBand", 60)
                .due("block 60", 1)
                .due("leastBand", -2);
        // What CHANNELS they have now doesn't matter, and stays.
        Run.on("orders 0;user a 0 0 1 9;user b 0 0 1 9;fixed a 30;fixed b 30;").idle("leastBand", 4).channels(30, 30);
        Run.on("orders 0;user a 0 0 1 9;user b 0 0 1 9;user c 0 0 1 9;user d 0 0 1 9;user e 0 0 1 9;")
                .due("leastBand", 5);
        // A SEARCH that gives up doesn't find: z has 31 with a LOOK of its own.
        Run.on(trio("user z 0 0 31 31;", 48)).due("leastBand", 51);
        Run.on(trio("user z 0 0 31 31;", 50)).due("leastBand", -2);
    }

    @Says("the least n 4 .. 60")
    static void terms_leastBandMayBeAboveBand() {
        // b has its first CHANNEL, if b and c, one above a's, are beyond n; f is too near that one, and d and e, who
        // never hinder anybody, have 900 couples of CHANNELS: the SEARCH gives up. With n one above a's, b and c HIT a,
        // b has its second CHANNEL, and f isn't too near.
        String late = "guard 1;space 3;orders 1;link 0 1 0;user a 0 0 30 30;user b 1 3 20 21;user c 1 3 11 11;"
                + "user d 2 0 1 30;user e 2 0 1 30;user f 1 0 18 18;slots d 1;slots e 2;";
        Run.on(late).due("complete", -3).due("leastBand", 31).due("count 1", 30);
        String last = late.replace("30 30", "59 59").replace("20 21", "50 51").replace("11 11", "10 10")
                .replace("18 18", "48 48");
        Run.on("band 59;" + last).due("complete", -3).due("leastBand", 60);
        // 51 and 10 are 61, which no n reaches; 50 and 10 are not beyond a BAND of 60.
        Run.on("band 60;" + last.replace("59 59", "60 60").replace("50 51", "51 52").replace("48 48", "49 49"))
                .due("complete", -3).due("leastBand", -2);
        Run.on("band 60;" + last).due("complete", 8).channels(59, 51, 10, 1, 1, 48);
    }

    @Says({"if all HIGHS were n at most,", "CHANNELS above n were BLOCKED,"})
    static void terms_leastBandLowersHighs() {
        Run.on("orders 0;user a 0 0 3 30;user b 0 0 3 30;").due("leastBand", 4);
        Run.on("orders 0;user a 0 0 3 30;user b 0 0 3 30;user c 0 0 3 30;").due("leastBand", 5);
        // What lies above n isn't looked at: with n 45 there are 46 LOOKS for each of a's 10 .. 20; 61 would be too many.
        Run.on("band 60;orders 0;space 20;user c 0 0 45 45;user a 0 0 10 60;user b 0 0 1 60;").due("leastBand", 45);
        // Told and later BLOCKED ones stay so.
        Run.on("user a 0 0 5 9;block 5 6;").due("leastBand", 7).due("block 7", 1).due("leastBand", 8).due("block 5", 0)
                .due("leastBand", 5);
    }

    @Says("BAND were n.")
    static void terms_leastBandHasNoProductsBeyondN() {
        // 2 and 3 make 5, within guard of c's 4: with BAND 4 that is none.
        String edge = "orders 1;guard 1;user a 0 9 2 2;user b 0 9 3 3;user c 1 9 4 4;link 0 1 0;";
        Run.on(edge).due("leastBand", 4);
        // With c's 5 BAND is 5 or more.
        Run.on(edge.replace("4 4;", "5 5;")).due("leastBand", -2);
        Run.on(edge.replace("4 4;", "5 7;")).due("leastBand", 7);
    }

    // ---- ROWS

    @Says("A ROW for orders, guard, space: from 1 on,")
    static void terms_aRowBeginsWithOne() {
        Run.fresh().due("grown 0 0 1 0", 1).due("grown 7 5 20 0", 1).due("grown 7 0 1 0", 1).due("grown 0 5 20 0", 1);
        Run.on("band 4;user a 0 0 4 4;block 1 4;").due("free 0", 0).due("grown 2 0 1 0", 1).due("grown 2 0 1 1", 2);
    }

    @Says("each next number is the least above the one ahead")
    static void terms_aRowsNextNumberIsTheLeastAbove() {
        Run.fresh().row("grown 0 0 1", 1, 2, 3, 4, 5, 6, 7, 8).row("grown 0 0 8", 1, 9, 17, 25, 33, 41, 49, 57);
        // 3 is 1 and 2; 5 and 6 are 4 and 1, 4 and 2; 8 is 7 and 1, 9 is 7 and 2; and so on by three.
        Run.fresh().row("grown 1 0 1", 1, 2, 4, 7, 10, 13, 16, 19);
        // 34, 35 and 38 are 33 and 1, 2, 5; 37 is twice 23 and 1 less twice 5, 39 is twice 8 and 33 less twice 5; with 36
        // the eighth one itself would make twice 33 and 8 less twice 36, which is 2.
        Run.fresh().row("grown 5 0 1", 1, 2, 5, 8, 12, 23, 33, 40);
    }

    @Says("by which a set of USERS of one SITE,")
    static void terms_aRowsUsersAreOfOneSite() {
        Run.on("orders 0;user a 0 0 1 1;user b 1 0 1 1;user c 2 0 1 1;").due("free 0", 1).row("grown 1 0 1", 1, 2, 4, 7)
                .due("free 0", 1).row("grown 0 0 5", 1, 6, 11);
    }

    @Says("of POWERS by which all is HEARD,")
    static void terms_aRowsProductsAreAllHeard() {
        // Three times 2 less twice 1 is 4, 5 and 7 are made of 3 and 2, 3 and 1; twice 3 and 2 less twice 1 is 6.
        Run.on("loss 99 99 99;user a 0 0 1 1;").due("free 0", 1).row("grown 4 0 1", 1, 2, 3, 8).due("free 0", 1)
                .row("grown 1 0 1", 1, 2, 4, 7);
        // 3 is twice 2 less 1, 5 and 6, 7 are made of 1, 2 and 4.
        Run.on("loss 99 99 99;").row("grown 2 0 1", 1, 2, 4, 8, 13, 21, 31, 45);
    }

    @Says("of all SLOTS,")
    static void terms_aRowsUsersHaveAllSlots() {
        Run.on("user a 0 0 1 1;user b 0 0 1 1;slots a 1;slots b 2;").due("free 0", 1).row("grown 1 0 1", 1, 2, 4, 7)
                .due("free 0", 1).row("grown 0 0 5", 1, 6, 11);
    }

    @Says("with these as CHANNELS, a BAND of 60, is CLEAN.")
    static void terms_aRowsBandIsSixty() {
        Run run = Run.on("band 4;guard 5;space 20;orders 0;block 1 4;user a 0 0 4 4;fixed a 1;");
        run.due("free 0", 0).row("grown 0 0 20", 1, 21, 41, -2).due("free 0", 0)
                .row("grown 2 0 1", 1, 2, 4, 8, 13, 21, 31, 45);
        run.row("grown 1 1 10", 1, 11, 21, 34, 47, 60, -2).channels(1).due("count 1", 4);
        // Twice 16 less 1 is 31, within guard of 32: with a lesser BAND it were none.
        run.due("free 0", 0).row("grown 2 1 15", 1, 16, 33).due("free 0", 0).row("grown 0 0 1", 1, 2, 3, 4, 5, 6, 7, 8);
        // Guard: 1 and 2 make 3, and 1; b less 1, b less 2 and so on must be farther than 5: 9 less 2 is 7.
        run.row("grown 1 5 1", 1, 2, 9);
        // Of 1, 12 and 28 there are 39, 44, 50 and 55, which HIT up to 59, and three times 28 less twice 12, 60.
        run.row("grown 6 4 11", 1, 12, 28, -2);
        // Of 1, 11 and 21 there are 31, 41 and 51, which HIT up to 56; three times 21 less twice 1, 61, is none.
        run.row("grown 4 5 10", 1, 11, 21, 57, -2);
    }

    // ---- promise 20

    @Says("Whether a CHANNEL FITS a USER, as if it had none (1, 0);")
    static void p20_fitsAsIfItHadNone() {
        Run.on(SECOND).due("fits 2 10", 0).due("fits 2 11", 1).due("fits 2 4", 0).due("fits 2 1", 1).due("fits 2 30", 1)
                .idle("fits 0 5", 1).channels(4, 6, 10);
        Run.on(PAIR + "fixed a 5;").due("fits 0 5", 1).due("fits 0 4", 1).due("fits 1 5", 0).due("fits 0 1", 1)
                .due("fits 0 10", 1);
        // Where it is now doesn't make the others wrong.
        Run.on(PAIR + "fixed a 5;fixed b 5;").due("fits 0 5", 0).due("fits 0 6", 1).due("fits 1 6", 1);
    }

    @Says("NONE: no such ones.")
    static void p20_fitsOfNoSuchUserOrChannelIsNone() {
        Run.on(PAIR).refused(-1, "fits # 1", -1, 2, 6, 8, Run.BIG, Run.SMALL)
                .refused(-1, "fits 0 #", 0, -1, 11, 60, 61, Run.BIG, Run.SMALL);
        Run.fresh().refused(-1, "fits # 1", 0, -1);
    }

    // ---- promise 21

    @Says("How many CHANNELS FIT a USER, as if it had none;")
    static void p21_freeCountsThoseThatFit() {
        Run.on(SECOND).due("free 2", 26);
        Run.on(PAIR + "fixed a 5;").due("free 0", 10).due("free 1", 9).due("block 10", 1).due("free 1", 8)
                .idle("free 0", 9);
        Run.on("band 60;user a 0 0 1 60;").due("free 0", 60);
        Run.on("band 60;user a 0 0 60 60;").due("free 0", 1).due("block 60", 1).due("free 0", 0);
        Run.on("band 4;user a 0 0 1 4;").due("free 0", 4);
        Run.on("orders 0;user a 0 0 1 1;user b 1 0 1 9;fixed a 2;").due("free 1", 0).due("free 0", 1);
    }

    @Says("NONE: no such USER.")
    static void p21_freeOfNoSuchUserIsNone() {
        Run.on(PAIR).refused(-1, "free #", -1, 2, 6, 8, Run.BIG, Run.SMALL);
        Run.fresh().refused(-1, "free #", 0, -1);
    }

    // ---- promise 22

    @Says("The k-th (0 on) of these;")
    static void p22_freeAt() {
        Run.on(SECOND).row("freeAt 2", 1, 3, 5, 7, 8, 9, 11, 12).due("freeAt 2 25", 30);
        Run.on(PAIR + "fixed a 1;fixed b 10;").due("freeAt 0 0", 1).due("freeAt 0 8", 9).due("freeAt 1 0", 2)
                .idle("freeAt 1 8", 10);
        Run.on("band 60;user a 0 0 60 60;").due("freeAt 0 0", 60);
    }

    @Says("-2: there are not so many;")
    static void p22_freeAtBeyondTheLast() {
        Run.on(SECOND).due("freeAt 2 26", -2).due("freeAt 2 MAX", -2);
        Run.on("user a 0 0 5 5;block 5 5;").due("freeAt 0 0", -2).due("block 5", 0).row("freeAt 0", 5, -2);
    }

    @Says("NONE: no such ones.")
    static void p22_freeAtOfNoSuchUserOrKIsNone() {
        Run.on(PAIR).refused(-1, "freeAt # 0", -1, 2, 6, 8, Run.BIG, Run.SMALL)
                .refused(-1, "freeAt 0 #", -1, -2, Run.SMALL);
        Run.fresh().refused(-1, "freeAt # 0", 0, -1);
    }

    // ---- promise 23

    @Says({"The CHANNEL of LOW .. HIGH, not BLOCKED, by which a USER, as if it had none,",
        "makes HITS and CROWDS together (of all USERS) fewest, the least;"})
    static void p23_quietest() {
        // c 3 crowds with a, 4 with a, 5 with both, 6 with b: the least of those with one.
        Run.on("orders 1;space 2;user a 0 3 1 30;user b 0 3 1 30;user c 0 3 3 6;fixed a 4;fixed b 6;")
                .due("quietest 2", 3)
                .due("block 3", 1).due("quietest 2", 4).due("block 4", 1).due("quietest 2", 6).due("block 6", 1)
                .due("quietest 2", 5);
        // By 5 d's 9 is hit, though c isn't; by 6 none is.
        Run.on("orders 1;user a 0 3 1 30;user c 0 3 5 6;user d 1 3 1 30;link 0 1 0;fixed a 4;fixed d 9;fixed c 5;")
                .due("quietest 1", 6).channels(4, 5, 9);
        // The ends of the stretch, and a crowd that counts as much as a hit: 4 crowds, 5 makes 9.
        Run.on("orders 1;user a 0 3 1 30;user c 0 3 4 5;user d 1 3 1 30;link 0 1 0;fixed a 4;fixed d 9;")
                .due("ifTuned 1 4", 1)
                .due("ifTuned 1 5", 1).due("quietest 1", 4);
        Run.on("band 60;orders 0;user a 0 0 60 60;").due("quietest 0", 60);
        Run.on("orders 0;user a 0 0 7 9;").due("quietest 0", 7).due("tune 0 9", 0).idle("quietest 0", 7).channels(9);
        // What isn't right of others doesn't count, nor what it has now.
        Run.on("orders 0;user a 0 0 1 9;user b 1 0 1 1;fixed b 2;fixed a 30;").due("quietest 0", 1);
    }

    @Says("-2: all are BLOCKED;")
    static void p23_quietestIfAllAreBlocked() {
        Run.on("user a 0 0 5 6;block 5 6;fixed a 9;").due("quietest 0", -2).due("block 6", 0).due("quietest 0", 6);
        Run.on("user a 0 0 5 5;block 4 4;block 6 6;").due("quietest 0", 5);
    }

    @Says("NONE: no such USER.")
    static void p23_quietestOfNoSuchUserIsNone() {
        Run.on(PAIR).refused(-1, "quietest #", -1, 2, 6, 8, Run.BIG, Run.SMALL);
        Run.fresh().refused(-1, "quietest #", 0, -1);
    }

    // ---- promise 24

    @Says("What SEARCH for all that have none would give a USER that has none;")
    static void p24_planned() {
        Run.on(PAIR).row("planned", 1, 2).idle("planned 1", 2).channels(0, 0);
        Run.on("orders 0;user a 0 0 1 2;user b 0 0 1 1;user c 0 0 1 30;fixed c 3;").row("planned", 2, 1, -2);
        Run.on(LONG).row("planned", 37, 21, 1, 21, 1);
    }

    @Says("-2: it finds nothing,")
    static void p24_plannedThatFindsNothing() {
        Run.on("orders 0;user a 0 0 1 1;user b 0 0 1 1;").row("planned", -2, -2);
        Run.on("orders 0;user a 0 0 1 1;user b 0 0 1 9;fixed a 2;").due("planned 1", -2);
    }

    @Says("it has one;")
    static void p24_plannedOfOneThatHasOne() {
        Run.on(PAIR + "fixed a 5;").row("planned", -2, 1).due("tune 0 0", 5).row("planned", 1, 2);
        Run.on(TOO_LONG + "fixed f 60;").due("planned 5", -2).due("planned 0", 37);
        Run.on(NEVER.replace("user b", "user a 0 0 1 3;user b") + "user d 2 0 1 1;fixed d 1;").due("planned 3", -2)
                .due("planned 0", -3);
    }

    @Says("-3: it GIVES UP;")
    static void p24_plannedThatGivesUp() {
        Run.on(TOO_LONG).row("planned", -3, -3, -3, -3, -3, -3, -1).idle("planned 0", -3);
    }

    @Says("NONE: no such USER.")
    static void p24_plannedOfNoSuchUserIsNone() {
        Run.on(PAIR).refused(-1, "planned #", -1, 2, 6, 8, Run.BIG, Run.SMALL);
        Run.on(TOO_LONG).due("planned 6", -1).due("planned MIN", -1);
        Run.fresh().refused(-1, "planned #", 0, -1);
    }

    // ---- promise 25

    @Says("The set of MEND (0: all is CLEAN);")
    static void p25_mended() {
        Run.fresh().due("mended", 0);
        Run.on(PAIR).due("mended", 0);
        Run.on(PAIR + "fixed a 5;fixed b 5;").idle("mended", 1).due("mended", 1).channels(5, 5);
        Run.on("orders 0;user a 0 0 1 1;user b 0 0 2 2;fixed a 2;fixed b 1;").idle("mended", 3);
    }

    @Says("-2: none does.")
    static void p25_mendedIfNoneDoes() {
        Run.on("orders 0;user a 0 0 1 4;block 1 4;fixed a 5;").idle("mended", -2).due("block 4", 0).due("mended", 1);
    }

    // ---- promise 26

    @Says("LEAST BAND;")
    static void p26_leastBand() {
        Run.fresh().idle("leastBand", 4);
        Run.on("orders 0;space 9;user a 0 0 1 30;user b 0 0 1 30;user c 0 0 1 30;").idle("leastBand", 19)
                .due("count 1", 30);
        // Four USERS whose thirds aren't on one another's: 1, 2, 5 and 7.
        Run.on("user a 0 9 1 30;user b 0 9 1 30;user c 0 9 1 30;user d 0 9 1 30;").due("leastBand", 7);
    }

    @Says("-2: there is none.")
    static void p26_leastBandIfThereIsNone() {
        Run.on("user a 0 0 5 6;block 5 6;").idle("leastBand", -2).due("block 6", 0).due("leastBand", 6);
        Run.on("orders 0;user a 0 0 1 1;user b 0 0 1 1;").due("leastBand", -2).due("slots 0 1", 255)
                .due("slots 1 2", 255)
                .due("leastBand", 4);
    }

    // ---- promise 27

    @Says("The i-th number (0 on) of the ROW for orders 0 .. 7, guard 0 .. 5, space 1 .. 20;")
    static void p27_grown() {
        Run.fresh().due("grown 0 0 1 0", 1).due("grown 0 0 1 7", 8).due("grown 7 5 20 0", 1).due("grown 7 0 1 3", 12)
                .due("grown 0 5 1 7", 8).due("grown 0 0 20 2", 41).due("grown 7 0 1 0", 1);
    }

    @Says("-2: there is none up to 60,")
    static void p27_grownBeyondSixty() {
        // By 9 the eighth would be 64; by 1, 1 and 10 the sixth is 60 itself.
        Run.fresh().due("grown 0 0 9 6", 55).due("grown 0 0 9 7", -2).due("grown 0 0 20 3", -2)
                .due("grown 1 1 10 5", 60)
                .due("grown 1 1 10 6", -2).due("grown 1 1 10 7", -2);
    }

    @Says("it would be a ninth one;")
    static void p27_grownNinth() {
        Run.fresh().due("grown 0 0 1 7", 8).due("grown 0 0 1 8", -2).due("grown 0 0 1 9", -2)
                .due("grown 0 0 1 MAX", -2);
    }

    @Says("NONE: no such ones.")
    static void p27_grownOfNoSuchOnesIsNone() {
        Run.fresh().refused(-1, "grown # 0 1 0", -1, 8, Run.BIG, Run.SMALL)
                .refused(-1, "grown 0 # 1 0", -1, 6, Run.BIG, Run.SMALL)
                .refused(-1, "grown 0 0 # 0", 0, -1, 21, Run.BIG, Run.SMALL)
                .refused(-1, "grown 0 0 1 #", -1, -2, Run.SMALL);
        Run.fresh().refused(-1, "grown # 0 1 8", 8, -1).refused(-1, "grown 0 # 1 8", 6, -1)
                .refused(-1, "grown 0 0 # 8", 0, 21);
    }

    // ---- promise 39

    @Says({"Of the CHANNELS that FIT a USER, as if it had none,",
        "how many leave a SEARCH for all others without a CHANNEL that finds;"})
    static void p39_spare() {
        // c must have 2, so b must have 1, so a must have 3.
        Run.on("orders 0;user a 0 0 1 3;user b 0 0 1 2;user c 0 0 2 2;").row("spare", 1, 1, 1).due("tune 0 3", 0)
                .row("spare", 1, 1, 1).due("tune 0 2", 3).due("spare 0", 1).due("tune 0 1", 2).row("spare", 1, 0, 0);
        // None else without a CHANNEL: all that fit.
        Run.on(SECOND).idle("spare 2", 26);
        Run.on(PAIR).due("spare 0", 10).due("tune 1 5", 0).due("spare 0", 9).due("spare 1", 10);
        Run.on("orders 0;user a 0 0 1 1;user b 1 0 1 9;fixed a 2;").due("spare 1", 0).due("spare 0", 1);
        // Of 1, 2 and 3 each leaves the other two; 4 crowds with none, but leaves them too.
        Run.on("band 4;orders 0;user a 0 0 1 4;user b 0 0 1 3;user c 0 0 1 2;").row("spare", 4, 3, 2);
        // w leaves a SEARCH that gives up, or one that finds.
        Run.on(trio("user z 0 0 31 31;", 50) + "user w 1 0 7 9;fixed z 31;").due("spare 3", 0);
        Run.on(trio("user z 0 0 31 31;", 48) + "user w 1 0 7 9;fixed z 31;").due("spare 3", 3);
        Run.on(LONG + "user f 0 0 57 60;").due("spare 5", 4);
    }

    @Says("NONE: no such USER.")
    static void p39_spareOfNoSuchUserIsNone() {
        Run.on(PAIR).refused(-1, "spare #", -1, 2, 6, 8, Run.BIG, Run.SMALL);
        Run.fresh().refused(-1, "spare #", 0, -1);
    }
}
