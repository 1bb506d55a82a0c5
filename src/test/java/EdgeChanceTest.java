/** The sentences on what would be: TURNED DOWN, DRAWS, BY CHANCE of Terms' part 3, promises 29, 32 to 34 and 42 to 44. */
public final class EdgeChanceTest {
    /** LEVEL 1 each; a and b are c's 10, c less a is b's 6, c less b is a's 4. */
    private static final String SECOND = "orders 1;user a 0 3 1 30;user b 0 3 1 30;user c 0 3 1 30;"
            + "fixed a 4;fixed b 6;fixed c 10;";
    /** a and b, of LEVEL 1, are 10, and b less a is 2; c is of another SITE. */
    private static final String APART = "orders 1;user a 0 3 1 30;user b 0 3 1 30;user c 2 3 1 30;"
            + "fixed a 4;fixed b 6;fixed c 10;";
    private static final String CROWD = "orders 0;user a 0 0 1 30;user b 0 0 1 30;fixed a 5;fixed b ";
    /** A user that, once its CHANNEL is drawn, finds none. */
    private static final String ALL_BLOCKED = "orders 0;user a 0 0 1 4;block 1 ";

    public static void main(String[] args) {
        Edges.run(EdgeChanceTest.class);
    }

    // ---- TURNED DOWN

    @Says("TURNED DOWN: as long as there are HITS")
    static void terms_turnedDownUntilThereAreNoHits() {
        Run.on(SECOND).due("tune 2 11", 10).due("turned -1", 0).row("turned", 3, 3, 3);
        Run.on(APART + "link 0 2 1;").due("turned -1", 1).row("turned", 2, 3, 3).due("left", 0);
        Run.on(APART + "link 0 2 0;").due("turned -1", 2).row("turned", 1, 3, 3).due("left", 0);
        Run.on(APART + "link 0 2 2;").due("turned -1", 0).row("turned", 3, 3, 3).due("left", 0);
    }

    @Says("and the USER by whom most are made (of PRODUCTS it is in, the first)")
    static void terms_turnedDownIsWhoMakesMostHits() {
        // All make two: a first; then b and c make one: b.
        Run.on(SECOND).due("turned -1", 4).row("turned", 1, 1, 3);
        // b and c make three, a two: b from 4 to 1, then a, with c, from 3 to 1.
        Run.on(SECOND + "user d 1 3 1 30;fixed d 16;link 0 1 0;").due("power 1 4", 3).due("turned -1", 5)
                .row("turned", 1, 1, 3, 3);
        // b makes two, but from 4 on no more than a does with it.
        Run.on(SECOND).due("power 1 5", 3).due("power 2 0", 3).due("turned -1", 4).row("turned", 0, 4, 0);
        // Who is hit, though it is the first, is in none.
        Run.on("orders 1;user d 1 3 1 30;user a 0 3 1 30;user b 0 3 1 30;link 0 1 0;fixed d 10;fixed a 4;fixed b 6;")
                .due("turned -1", 2).row("turned", 3, 1, 3);
    }

    @Says("has POWER above 0:")
    static void terms_turnedDownEndsWhereTheWorstHasNoPower() {
        Run.on("loss 0 0 0;" + SECOND).due("turned -1", 3).row("turned", 0, 3, 3).due("left", 3);
        Run.on("loss 0 0 0;" + SECOND).due("power 0 0", 3).due("turned -1", 0).row("turned", 0, 3, 3).due("left", 3);
        Run.on("loss 0 0 0;" + SECOND).due("power 0 30", 3).due("power 1 30", 3).due("turned -1", 30)
                .row("turned", 0, 30, 3);
        // b makes two, from 4 on one with a; a comes down to 0, and just then there are none.
        Run.on(SECOND).due("power 1 5", 3).due("power 2 0", 3).due("turned -1", 4).row("turned", 0, 4, 0)
                .due("left", 0);
    }

    @Says("that is one less.")
    static void terms_turnedDownGoesByOne() {
        Run.on(APART + "link 0 2 0;").due("power 0 30", 3).due("turned -1", 29).due("turned 0", 1).due("power 1 30", 3)
                .due("turned -1", 30).row("turned", 0, 30, 3).due("left", 1);
        // a from 30 to 0, by which 31 is just too much; then b.
        Run.on("loss 31 0 0;" + SECOND.replace(" 3 1 30", " 30 1 30")).due("turned -1", 60).row("turned", 0, 0, 30)
                .due("left", 0);
    }

    // ---- DRAWS and CHANCE

    /** With all of the band BLOCKED a USER loses its CHANNEL once, just if that is drawn. */
    private static void draws(String seed, int band, int... drawn) {
        for (int half = 0; half < 2; half++) {
            Run run = Run.on("band " + band + ";" + ALL_BLOCKED + band + ";");
            int had = 0;
            for (int channel = 1 + half * band / 2; channel <= (half + 1) * band / 2; channel++) {
                int first = drawn.length;
                for (int i = drawn.length - 1; i >= 0; i--) {
                    first = drawn[i] == channel ? i : first;
                }
                run.due("tune 0 " + channel, had)
                        .due("chance " + seed + " " + drawn.length + " 1", first < drawn.length ? 1 : 0);
                if (first > 0) {
                    run.due("chance " + seed + " " + first + " 1", 0);
                }
                if (first < drawn.length) {
                    run.due("chance " + seed + " " + (first + 1) + " 1", 1);
                }
                had = channel;
            }
        }
    }

    @Says("DRAW: the last number (at first the seed) times 1103515245, and 12345 more, without what is above 31 bits, "
        + "is the next one;")
    static void terms_drawsGoOnFromTheLastNumber() {
        // From 0: 12345, 1406932606, 654583775, 1449466924, ..; by 65536: 0, 21468, 9988, 22117, ..
        draws("0", 30, 1, 19, 29, 8, 19, 8, 26, 2, 3, 11, 22, 23, 20, 9, 28, 16, 29, 14, 3, 22);
        draws("1", 30, 9, 29, 4, 26, 2, 18, 1, 10, 13, 7, 20, 18, 25, 1, 6, 24, 10, 4, 28, 7);
        // From 2147483647: 1043980748, by 65536 15929, modulo 30 it is 29.
        draws("MAX", 30, 30, 30, 23, 19, 14, 27, 21, 24, 23, 15, 24, 20, 16, 17, 20, 29, 10, 23, 8, 8);
    }

    @Says("this by 65536, rounded down, modulo what is said, is drawn.")
    static void terms_drawnIsModuloWhatIsSaid() {
        draws("0", 4, 1, 1, 1, 2, 3, 4, 2, 2, 3, 3, 2, 1, 4, 3, 4, 4, 1, 2, 1, 2);
        draws("0", 60, 1, 49, 29, 38, 19, 8, 26, 2, 3, 11, 22, 53, 20, 39, 28, 16, 29, 14, 33, 22);
        draws("99999", 60, 57, 42, 5, 50, 44, 36, 2, 36, 16, 22, 6, 47, 24, 26, 30, 28, 20, 57, 40, 22);
        draws("MAX", 60, 30, 30, 23, 19, 14, 27, 21, 24, 53, 15, 54, 50, 16, 17, 50, 59, 40, 23, 8, 38);
    }

    @Says("BY CHANCE: n times, one behind another:")
    static void terms_byChanceGoesOnWithWhatTheOneAheadLeft() {
        // 1, then 19, then 29 are drawn of 30: a goes from 1 to 19, from there to 20; 19 is BLOCKED then, 1 still is.
        Run.on("orders 0;user a 0 0 1 20;fixed a 1;block 2 18;").due("chance 0 1 1", 1).due("chance 0 1 0", 1)
                .due("chance 0 2 1", 2).due("chance 0 2 0", 1).due("chance 0 20 1", 3).due("block 20", 1)
                .due("chance 0 2 1", 2)
                .due("chance 0 2 0", 0);
        // Of two USERS of one SITE the first takes what the second loses later.
        Run.on("orders 0;user a 0 0 1 30;user b 0 0 1 30;fixed a 1;fixed b 19;").row("chance 0 2", 2, 2, 1);
    }

    @Says("a CHANNEL, a DRAW modulo BAND and 1, is BLOCKED (if it wasn't);")
    static void terms_byChanceADrawnChannelIsBlockedAndStaysSo() {
        // 1 was BLOCKED and stays so: a finds none; else it finds none as well, as 1 is BLOCKED then.
        Run.on("orders 0;user a 0 0 1 1;fixed a 1;block 1 1;").row("chance 0 1", 0, 1, 1);
        Run.on("orders 0;user a 0 0 1 1;fixed a 1;").row("chance 0 1", 0, 1, 1);
        // Of 4 it is drawn three times.
        Run.on("band 4;orders 0;user a 0 0 1 1;fixed a 1;").row("chance 0 1", 0, 1, 1).row("chance 0 2", 0, 1, 1)
                .row("chance 0 3", 0, 1, 1);
        // The last of the band; and nothing of it is BLOCKED behind the call.
        Run.on("orders 0;user a 0 0 30 30;fixed a 30;").row("chance MAX 1", 0, 1, 1).idle("chance MAX 20 1", 1)
                .due("count 5", 0);
        Run.on("orders 0;user a 0 0 2 30;fixed a 2;").row("chance 0 7", 1, 0, 1).row("chance 0 8", 1, 1, 1);
    }

    @Says("each USER that has that CHANNEL, by numbers, loses it,")
    static void terms_byChanceEachUserOfThatChannelLosesIt() {
        // Of unlike SITES: both lose it. While b still has the BLOCKED one, nothing FITS a; then b finds.
        Run.on("orders 0;user a 0 0 1 30;user b 1 0 1 30;fixed a 1;fixed b 1;").row("chance 0 1", 1, 2, 1);
        Run.on("orders 0;user a 0 0 1 30;user b 1 0 1 1;fixed a 1;fixed b 1;").row("chance 0 1", 0, 2, 1);
        Run.on("orders 0;user a 0 0 1 1;user b 1 0 1 30;fixed a 1;fixed b 1;").row("chance 0 1", 1, 2, 1);
        Run.on("orders 0;user a 0 0 1 30;user b 0 0 1 30;user c 0 0 1 30;fixed a 2;fixed b 1;fixed c 19;")
                .row("chance 0 1", 3, 1, 1).row("chance 0 2", 3, 2, 1);
        // One that is BLOCKED already is lost as well.
        Run.on("orders 0;user a 0 0 1 30;fixed a 1;block 1 1;").due("clean", 0).row("chance 0 1", 1, 1, 1);
    }

    @Says("and has what SEARCH for it by itself finds")
    static void terms_byChanceItHasWhatSearchFindsForItAlone() {
        // b, without one, gets none.
        Run.on("orders 0;user a 0 0 1 30;user b 0 0 1 30;fixed a 1;").row("chance 0 1", 1, 1, 1);
        // The least that fits: 19, as b has 2 .. and the rest is BLOCKED; it is lost with the second DRAW.
        Run.on("orders 0;user a 0 0 1 30;user b 0 0 1 30;fixed a 1;fixed b 2;block 3 18;").row("chance 0 2", 2, 2, 1);
        // b, of another SITE, isn't RIGHT: nothing FITS a.
        Run.on("orders 0;user a 0 0 1 30;user b 1 0 1 1;fixed a 1;fixed b 5;").row("chance 0 1", 1, 1, 0);
    }

    @Says("(nothing, GIVES UP: none).")
    static void terms_byChanceItHasNoneIfNothingIsFound() {
        Run.on("orders 0;user a 0 0 1 2;user b 0 0 1 2;fixed a 1;fixed b 2;").row("chance 0 1", 1, 1, 1)
                .row("chance 0 20", 0, 2, 1);
    }

    // ---- promise 29

    @Says("HITS and CROWDS together, if a USER had a CHANNEL 0 .. BAND (0: none);")
    static void p29_ifTuned() {
        Run.on(SECOND).due("ifTuned 2 10", 3).due("ifTuned 2 0", 0).due("ifTuned 2 2", 3).due("ifTuned 2 4", 1)
                .due("ifTuned 2 1", 0)
                .due("ifTuned 2 30", 0).idle("ifTuned 0 1", 0).channels(4, 6, 10);
        Run.on("space 2;" + SECOND).due("ifTuned 2 5", 2).due("ifTuned 2 3", 1).due("ifTuned 2 10", 3);
        Run.on(CROWD + "5;").due("ifTuned 1 5", 1).due("ifTuned 1 6", 0).due("ifTuned 1 0", 0).due("ifTuned 0 0", 0);
        // BLOCKED or beyond its stretch, it has it all the same.
        Run.on("user a 0 0 1 1;block 9 9;").due("ifTuned 0 9", 0).due("ifTuned 0 30", 0);
        Run.on("orders 0;user a 0 0 1 30;user b 0 0 1 4;block 5 5;fixed a 5;").due("ifTuned 1 5", 1).due("tune 0 6", 5)
                .due("ifTuned 1 6", 1).due("block 4", 1).due("tune 0 4", 6).due("ifTuned 1 4", 1);
        Run.on("band 60;" + APART + "link 0 2 0;").due("ifTuned 2 60", 0).due("ifTuned 2 10", 1);
    }

    @Says("NONE: no such ones.")
    static void p29_ifTunedOfNoSuchOnesIsNone() {
        Run.on(SECOND).refused(-1, "ifTuned # 1", -1, 3, 6, 8, Run.BIG, Run.SMALL)
                .refused(-1, "ifTuned 0 #", -1, 31, 60, 61, Run.BIG, Run.SMALL).refused(-1, "ifTuned # 0", -1, 3);
        Run.fresh().refused(-1, "ifTuned # 0", 0, -1);
    }

    // ---- promise 32

    @Says("TURNED DOWN: how many steps (user NONE),")
    static void p32_turnedSteps() {
        Run.fresh().due("turned -1", 0);
        Run.on(SECOND).idle("turned -1", 4).row("user 0", 0, 3).due("turned -1", 4);
    }

    @Says("POWER of a USER then;")
    static void p32_turnedPower() {
        Run.on(SECOND).row("turned", 1, 1, 3).idle("turned 0", 1).due("user 0 1", 3);
        Run.on(CROWD + "5;").row("turned", 0, 0);
    }

    @Says("-2: no such USER.")
    static void p32_turnedOfNoSuchUser() {
        Run.on(SECOND).refused(-2, "turned #", -2, 3, 6, 8, Run.BIG, Run.SMALL);
        Run.fresh().refused(-2, "turned #", 0, -2);
    }

    // ---- promise 33

    @Says("HITS that are left, as it is TURNED DOWN.")
    static void p33_left() {
        Run.fresh().due("left", 0);
        Run.on(SECOND).due("left", 0).due("products 2", 3);
        Run.on("loss 0 0 0;" + SECOND).idle("left", 3).due("products 2", 3);
        // Without a's POWER b and c still hit a.
        Run.on("loss 1 0 0;" + SECOND).due("power 1 1", 3).due("power 2 1", 3).due("turned -1", 3).due("left", 3);
        Run.on("loss 2 0 0;" + SECOND).due("power 1 1", 3).due("power 2 1", 3).due("products 2", 3).due("turned -1", 4)
                .due("left", 0)
                .row("turned", 0, 0, 1);
        Run.on(APART + "link 0 2 0;").due("power 0 30", 3).due("power 1 30", 3).due("left", 1);
        // CROWDS and what isn't RIGHT don't matter: a and then b are turned down from 3 to 1.
        for (String text : new String[] {"space 3;" + SECOND, SECOND + "block 1 30;", SECOND.replace(" 1 30;", " 30 30;")}) {
            Run.on(text).due("clean", 0).due("turned -1", 4).row("turned", 1, 1, 3).due("left", 0);
        }
        Run.on(CROWD + "5;").due("products 3", 1).due("turned -1", 0).due("left", 0);
    }

    // ---- promise 34

    @Says({"The two USERS with CHANNELS whose CHANNELS, changed with one another,",
        "leave HITS and CROWDS together fewest (fewer than now),"})
    static void p34_bestSwapLeavesFewest() {
        // 29, of another SITE, for any of the three leaves none; for a's 4 with 16 instead b and c make 16.
        String text = SECOND + "user d 1 0 1 30;fixed d 29;";
        Run.on(text).idle("bestSwap", 3).due("tune 3 16", 29).due("bestSwap", 9).due("tune 3 0", 16)
                .due("bestSwap", -2);
        // Also where they are not RIGHT then.
        Run.on(text.replace("a 0 3 1 30", "a 0 3 4 4")).due("bestSwap", 3);
        // a and b have no SLOT in common, e crowds with both: a or b for f leaves one, e for f none.
        Run.on("orders 0;user a 0 0 1 30;user b 0 0 1 30;user c 2 0 1 30;user d 2 0 1 30;user e 0 0 1 30;user f 1 0 1 30;"
                + "slots a 1;slots b 2;fixed a 5;fixed b 5;fixed e 5;fixed f 20;").due("products 3", 2)
                .due("bestSwap", 29);
        // Only HITS, only one: twice b less a is 1, which hits c of the other SITE.
        Run.on("user a 0 9 1 30;user b 0 9 1 30;user c 1 9 1 30;link 0 1 0;fixed a 3;fixed b 2;fixed c 1;")
                .due("bestSwap", 8)
                .channels(3, 2, 1);
    }

    @Says("the first by the lesser number, then the other one:")
    static void p34_bestSwapIsTheFirst() {
        Run.on(SECOND + "user d 1 0 1 30;user e 2 0 1 30;fixed d 29;fixed e 28;").due("bestSwap", 3).due("tune 3 0", 29)
                .due("bestSwap", 4);
        Run.on("orders 0;user a 1 0 1 30;user b 0 0 1 30;user c 0 0 1 30;fixed a 9;fixed b 5;fixed c 5;")
                .due("bestSwap", 1)
                .due("tune 0 1", 9).due("bestSwap", 1).due("tune 0 9", 1).due("tune 1 1", 5).due("tune 2 1", 5)
                .due("bestSwap", 1);
    }

    @Says("6 times the lesser, and the other one;")
    static void p34_bestSwapIsSixTimesTheLesserAndTheOther() {
        String six = "orders 0;user a 0 0 1 30;user b 1 0 1 30;user c 2 0 1 30;user d 0 0 1 30;user e 1 0 1 30;user f 2 0 1 30;";
        // c and f, on one CHANNEL: c for the first other one, a.
        Run.on(six + "fixed c 5;fixed f 5;fixed a 9;").due("bestSwap", 2);
        Run.on(six + "fixed c 5;fixed f 5;fixed d 9;").due("bestSwap", 15);
        Run.on(six + "fixed c 5;fixed f 5;fixed e 9;").due("bestSwap", 16);
        Run.on(six + "fixed a 5;fixed d 5;fixed f 9;").due("bestSwap", 5);
    }

    @Says("-2: none leave fewer.")
    static void p34_bestSwapIfNoneLeaveFewer() {
        Run.fresh().due("bestSwap", -2);
        Run.on(SECOND).due("bestSwap", -2).due("tune 2 11", 10).due("bestSwap", -2);
        Run.on(CROWD + "5;").due("bestSwap", -2);
        Run.on(CROWD + "5;user c 0 0 1 30;fixed c 9;").due("bestSwap", -2);
    }

    // ---- promise 42

    @Says("The greatest POWER 0 .. 30 of a USER (all else as it is) by which there are no HITS;")
    static void p42_mostPower() {
        // a's and b's 3 make 1, of which the link takes 4: 5 and 3 are one too few, 6 and 3 enough.
        Run.on(APART + "link 0 2 4;").idle("mostPower 0", 5).due("mostPower 2", 30).due("power 1 8", 3)
                .due("mostPower 0", 0)
                .due("power 1 0", 8).due("mostPower 0", 8).due("mostPower 1", 5);
        Run.on(SECOND).due("tune 2 11", 10).due("mostPower 0", 30);
        Run.on("loss 61 0 0;" + SECOND).due("power 1 30", 3).due("mostPower 0", 30);
        Run.on("loss 60 0 0;" + APART + "link 0 2 0;").due("power 1 30", 3).due("mostPower 0", 29);
        Run.on("loss 60 0 0;" + APART + "link 0 2 1;").due("power 1 30", 3).due("mostPower 0", 30);
        // CROWDS and what isn't RIGHT don't matter.
        Run.on(CROWD + "5;").due("clean", 0).due("mostPower 0", 30);
        Run.on("user a 0 0 1 1;fixed a 5;").due("clean", 0).due("mostPower 0", 30);
    }

    @Says("-2: by none;")
    static void p42_mostPowerByNone() {
        Run.on(SECOND).row("mostPower", -2, -2, -2);
        Run.on(APART + "link 0 2 4;").due("power 1 9", 3).due("mostPower 0", -2).due("power 0 6", 3)
                .due("mostPower 2", -2);
    }

    @Says("NONE: no such USER.")
    static void p42_mostPowerOfNoSuchUserIsNone() {
        Run.on(SECOND).refused(-1, "mostPower #", -1, 3, 6, 8, Run.BIG, Run.SMALL);
        Run.fresh().refused(-1, "mostPower #", 0, -1);
    }

    // ---- promise 43

    @Says("The greatest guard 0 .. 5 by which there are no HITS;")
    static void p43_mostGuard() {
        Run.fresh().due("mostGuard", 5);
        // a and b are 10, b less a is 2.
        String text = APART + "link 0 2 1;";
        Run.on(text).due("tune 2 11", 10).due("mostGuard", 0).due("tune 2 12", 11).due("mostGuard", 1)
                .due("tune 2 15", 12)
                .due("mostGuard", 4).due("tune 2 16", 15).due("mostGuard", 5).due("tune 2 6", 16).due("mostGuard", 3)
                .due("tune 2 0", 6).due("mostGuard", 5);
        Run.on("guard 5;" + text).due("tune 2 12", 10).idle("mostGuard", 1).due("count 2", 5).due("hits 2", 1);
        // CROWDS and what isn't RIGHT don't matter.
        Run.on(CROWD + "5;").due("clean", 0).due("mostGuard", 5);
        Run.on("user a 0 0 1 1;fixed a 5;").due("clean", 0).due("mostGuard", 5);
    }

    @Says("-2: by none.")
    static void p43_mostGuardByNone() {
        Run.on(SECOND).due("mostGuard", -2).due("tune 2 0", 10).due("mostGuard", 5);
        Run.on("guard 5;" + APART + "link 0 2 1;").due("mostGuard", -2);
    }

    // ---- promise 44

    @Says({"BY CHANCE n 1 .. 20", "from a seed 0 .. 2147483647 on"})
    static void p44_chanceTakesOneToTwentyFromASeed() {
        // 22 is the eleventh and the twentieth drawn from 0; 3 the ninth; 30 the first from 2147483647.
        Run.on("orders 0;user a 0 0 1 30;block 1 30;").due("tune 0 22", 0).due("chance 0 10 1", 0)
                .due("chance 0 11 1", 1)
                .due("chance 0 20 1", 1).due("tune 0 1", 22).due("chance 0 1 1", 1).due("tune 0 30", 1)
                .due("chance MAX 1 1", 1)
                .due("chance 0 20 1", 0).due("tune 0 7", 30).due("chance 1 19 1", 1).due("chance 1 20 1", 1);
        Run.on("orders 0;user a 0 0 1 30;user b 1 0 1 30;block 1 30;").due("tune 0 28", 0).due("chance 1 18 1", 0)
                .due("chance 1 19 1", 1).due("tune 0 0", 28).due("tune 1 14", 0).due("chance 0 17 1", 0)
                .due("chance 0 18 1", 1);
    }

    @Says("(-1: that of the TEXT),")
    static void p44_chanceFromTheTextsSeed() {
        Run.on("seed 1;orders 0;user a 0 0 1 30;fixed a 9;").due("chance -1 1 1", 1).due("chance 1 1 1", 1)
                .due("chance 0 1 1", 0);
        Run.on("orders 0;user a 0 0 1 30;fixed a 1;").due("chance -1 1 1", 1).due("chance 1 1 1", 0);
        Run.on("seed 1;user a 0 0 1 30;").tell("orders 0;user a 0 0 1 30;fixed a 1;", 3).due("chance -1 1 1", 1)
                .due("chance -1 1 1", 1);
        Run.fresh().due("chance -1 20 2", 1);
    }

    @Says("what 0 how many USERS have a CHANNEL then,")
    static void p44_chanceTellsHowManyHaveAChannel() {
        Run.on("orders 0;user a 0 0 1 1;user b 0 0 1 30;user c 0 0 1 30;fixed a 1;fixed b 5;").due("chance 0 1 0", 1)
                .due("count 6", 2).due("chance 1 1 0", 2);
        Run.fresh().due("chance 0 20 0", 0);
    }

    @Says("1 how often one lost its CHANNEL,")
    static void p44_chanceTellsHowOftenOneLostItsChannel() {
        Run.on("orders 0;user a 0 0 1 30;fixed a 5;").due("chance 0 20 1", 0).due("tune 0 1", 5).due("chance 0 1 1", 1)
                .due("chance 0 7 1", 1).due("chance 0 8 1", 2).due("chance 0 9 1", 3).due("chance 0 20 1", 3);
    }

    @Says("2 whether all is CLEAN then (1, 0);")
    static void p44_chanceTellsWhetherAllIsClean() {
        Run.on("orders 0;user a 0 0 1 1;fixed a 1;block 1 1;").due("clean", 0).due("chance 0 1 2", 1)
                .due("chance 1 1 2", 0);
        Run.on("orders 0;user a 0 0 1 30;user b 1 0 1 1;fixed a 5;fixed b 5;").due("chance 0 1 2", 0);
    }

    @Says("NONE: no such ones.")
    static void p44_chanceOfNoSuchOnesIsNone() {
        Run.on(SECOND).refused(-1, "chance # 1 0", -2, -3, Run.SMALL)
                .refused(-1, "chance 0 # 0", 0, -1, 21, Run.BIG, Run.SMALL)
                .refused(-1, "chance 0 1 #", -1, 3, Run.BIG, Run.SMALL).refused(-1, "chance -1 # 2", 0, 21);
    }
}
