/** The sentences on PRODUCTS, HITS and CROWDS: Terms' part 2 up to CLEAN, promises 14 to 19, 28, 30, 31, 35 to 38, 40. */
public final class EdgeProductTest {
    /** LEVEL 1 each; a and b are c's 10, c less a is b's 6, c less b is a's 4. */
    private static final String SECOND = "orders 1;user a 0 3 1 30;user b 0 3 1 30;user c 0 3 1 30;"
            + "fixed a 4;fixed b 6;fixed c 10;";
    /** a and b, of LEVEL 1, are 10, and b less a is 2; c is of another SITE. */
    private static final String APART = "orders 1;user a 0 3 1 30;user b 0 3 1 30;user c 2 3 1 30;"
            + "fixed a 4;fixed b 6;fixed c 10;";
    /** 20, 21 and 23, POWERS 1, 2 and 4, without LOSS: 27 PRODUCTS, three of each two, six or three of all. */
    private static final String ALL_SORTS = "band 60;orders 7;loss 0 0 0;user a 0 1 1 60;user b 0 2 1 60;"
            + "user c 0 4 1 60;fixed a 20;fixed b 21;fixed c 23;";
    /** p and q are 18, which HITS the second of 10 and 15; a and b are 12, which HITS both. */
    private static final String ONE_AND_TWO = "orders 1;guard 3;user p 1 9 1 30;user q 1 9 1 30;user a 0 9 1 30;user b 0 9 1 30;"
            + "user s 2 0 1 30;user t 2 0 1 30;link 0 2 0;link 1 2 0;fixed p 9;fixed q 9;fixed a 6;fixed b 6;fixed s 10;fixed t 15;";
    /** No PRODUCTS. */
    private static final String CROWD = "orders 0;user a 0 0 1 30;user b 0 0 1 30;fixed a 5;fixed b ";

    public static void main(String[] args) {
        Edges.run(EdgeProductTest.class);
    }

    /** A PRODUCT's sort, a, b, c, CHANNEL, LEVEL, whom it HITS. */
    private static void lists(Run run, int from, int[]... rows) {
        for (int i = 0; i < rows.length; i++) {
            run.row("product " + (from + i), rows[i]);
        }
    }

    // ---- PRODUCTS

    @Says({"A USER has a CHANNEL (at first the one that is fixed),", "or none."})
    static void terms_aUserHasAtFirstTheFixedChannelOrNone() {
        Run.on("user a 0 0 1 1;user b 0 0 1 1;fixed b 30;").channels(0, 30).due("count 6", 1).due("tune 0 9", 0)
                .channels(9, 30);
    }

    @Says("PRODUCTS, of USERS of one SITE")
    static void terms_productsAreOfUsersOfOneSite() {
        Run.on("orders 7;link 0 1 0;user a 0 30 1 30;user b 1 30 1 30;user c 2 30 1 30;fixed a 4;fixed b 6;fixed c 10;")
                .due("products 0", 0);
        Run.on(APART).due("products 0", 2).due("product 0 1", 0).due("product 0 2", 1).due("product 1 1", 1)
                .due("product 1 2", 0);
    }

    @Says("that have CHANNELS,")
    static void terms_productsAreOfUsersThatHaveChannels() {
        Run.on(SECOND).due("products 0", 6).due("tune 1 0", 6).due("products 0", 2).due("tune 0 0", 4)
                .due("products 0", 0);
        Run.on(ALL_SORTS).due("products 0", 27).due("tune 2 0", 23).due("products 0", 6).due("bySort 3 0", 0)
                .due("bySort 5 0", 0);
    }

    @Says("that have CHANNELS,")
    static void terms_nothingIsLeftOfProductsThatWere() {
        // a and b have theirs, make HITS, and have none again: nothing is answered of what was.
        Run run = Run.on(SECOND.replace("fixed a 4;fixed b 6;", "")).due("keep", 1).due("tune 0 4", 0).due("tune 1 6", 0);
        run.due("products 2", 3).due("product 0 6", 4).due("back", 1);
        run.due("hits 2", 0).due("hitBy 2 0", -2).due("when 2", 0).due("clearance 2", -2).due("worst", -2)
                .due("loudest", -2).row("rank", 0, 1, 2).row("bySort 0", 0, 0, 0).due("product 0 0", -1000)
                .due("products 0", 0).due("products 1", 0).due("products 2", 0).due("left", 0).due("turned -1", 0);
        run.due("tune 0 4", 0).due("tune 1 6", 0).due("products 0", 6).due("tune 0 0", 4).due("products 0", 2)
                .due("hits 2", 0).due("hitBy 2 0", -2).due("worst", -2);
    }

    @Says("all unlike ones,")
    static void terms_productsAreOfUnlikeUsers() {
        Run.on("band 60;orders 7;user a 0 30 1 60;fixed a 5;").due("products 0", 0);
        Run.on("band 60;orders 7;user a 0 30 1 60;user b 0 30 1 60;fixed a 20;fixed b 21;").row("bySort 3", 0, 0, 0)
                .row("bySort 5", 0, 0, 0).due("products 0", 6);
        // USERS are unlike, though they have one CHANNEL: 5 and 5, twice 5 less 5, three times 5 less twice 5.
        Run run = Run.on("orders 7;loss 0 0 0;user a 0 0 1 30;user b 0 0 1 30;fixed a 5;fixed b 5;")
                .due("products 0", 5);
        lists(run, 0, new int[][] {{0, 0, 1, -2, 10}, {2, 0, 1, -2, 5}, {2, 1, 0, -2, 5}, {4, 0, 1, -2, 5}, {4, 1, 0, -2, 5}});
    }

    @Says("that have a SLOT in common, all of them,")
    static void terms_allOfAProductHaveASlotInCommon() {
        Run.on(SECOND + "slots a 1;slots b 2;").due("products 0", 4).due("slots 1 3", 2).due("products 0", 6)
                .due("slots 1 254", 3).due("products 0", 4).due("slots 0 128", 1).due("products 0", 6)
                .due("slots 1 127", 254).due("products 0", 4);
        // Each two have one, all three have none.
        Run.on(ALL_SORTS + "slots a 3;slots b 6;slots c 5;").due("bySort 2 0", 6).due("bySort 3 0", 0)
                .due("bySort 5 0", 0)
                .due("bySort 4 0", 6).due("slots 2 7", 5).due("bySort 3 0", 3).due("bySort 5 0", 6);
        Run.on(ALL_SORTS + "slots a 128;slots b 129;slots c 192;").due("bySort 3 0", 3).due("slots 2 65", 192)
                .due("bySort 3 0", 0).due("bySort 2 0", 4);
    }

    @Says("by sorts: 0 a and b, a the lesser number;")
    static void terms_sort0IsAAndB() {
        Run run = Run.on(ALL_SORTS).due("bySort 0 0", 3);
        lists(run, 0, new int[][] {{0, 0, 1, -2, 41, 3, 0}, {0, 0, 2, -2, 43, 5, 0}, {0, 1, 2, -2, 44, 6, 0}});
    }

    @Says("1 a less b;")
    static void terms_sort1IsALessB() {
        Run run = Run.on(ALL_SORTS).due("bySort 1 0", 3);
        lists(run, 3, new int[][] {{1, 1, 0, -2, 1, 3, 0}, {1, 2, 0, -2, 3, 5, 0}, {1, 2, 1, -2, 2, 6, 0}});
    }

    @Says("2 twice a less b;")
    static void terms_sort2IsTwiceALessB() {
        Run run = Run.on(ALL_SORTS).due("bySort 2 0", 6);
        lists(run, 6, new int[][] {{2, 0, 1, -2, 19, 4, 0}, {2, 0, 2, -2, 17, 6, 0}, {2, 1, 0, -2, 22, 5, 0},
            {2, 1, 2, -2, 19, 8, 0}, {2, 2, 0, -2, 26, 9, 0}, {2, 2, 1, -2, 25, 10, 0}});
    }

    @Says("3 a and b less c, a less than b;")
    static void terms_sort3IsAAndBLessC() {
        Run run = Run.on(ALL_SORTS).due("bySort 3 0", 3);
        lists(run, 12, new int[][] {{3, 0, 1, 2, 18, 7, 0}, {3, 0, 2, 1, 22, 7, 0}, {3, 1, 2, 0, 24, 7, 0}});
    }

    @Says("4 three times a less twice b;")
    static void terms_sort4IsThreeTimesALessTwiceB() {
        // Three times 21 less twice 20 is c's 23.
        Run run = Run.on(ALL_SORTS).due("bySort 4 0", 6);
        lists(run, 15, new int[][] {{4, 0, 1, -2, 18, 7, 0}, {4, 0, 2, -2, 14, 11, 0}, {4, 1, 0, -2, 23, 8, 4},
            {4, 1, 2, -2, 17, 14, 0}, {4, 2, 0, -2, 29, 14, 0}, {4, 2, 1, -2, 27, 16, 0}});
    }

    @Says("5 twice a and b less twice c:")
    static void terms_sort5IsTwiceAAndBLessTwiceC() {
        Run run = Run.on(ALL_SORTS).due("bySort 5 0", 6).due("products 0", 27);
        lists(run, 21, new int[][] {{5, 0, 1, 2, 15, 12, 0}, {5, 0, 2, 1, 21, 10, 0}, {5, 1, 0, 2, 16, 13, 0},
            {5, 1, 2, 0, 25, 10, 0}, {5, 2, 0, 1, 24, 13, 0}, {5, 2, 1, 0, 27, 12, 0}});
    }

    @Says("what their CHANNELS are together, if that is 1 .. BAND.")
    static void terms_aProductsChannelIsOneToBand() {
        String two = "orders 1;user a 0 9 1 9;user b 0 9 1 9;";
        Run.on("band 9;" + two).due("tune 0 4", 0).due("tune 1 5", 0).due("products 0", 2).due("product 0 4", 9)
                .due("product 1 4", 1).due("tune 0 5", 4).due("products 0", 0).due("tune 0 6", 5).due("products 0", 1)
                .due("product 0 4", 1);
        Run.on("band 60;" + two).due("tune 0 30", 0).due("tune 1 30", 0).due("products 0", 1).due("product 0 4", 60)
                .due("tune 0 31", 30).due("products 0", 1).due("product 0 0", 1).due("tune 1 60", 30)
                .due("tune 0 1", 31)
                .due("products 0", 1).due("product 0 4", 59);
        // Twice 2 less 4 is 0; twice 30 less 1 is 59; three times 20 less twice 1 is 58, three times 60 is far beyond.
        Run.on("band 60;orders 2;user a 0 9 1 9;user b 0 9 1 9;fixed a 2;fixed b 4;").due("products 0", 1)
                .due("product 0 4", 6);
        Run.on("band 60;orders 6;user a 0 9 1 9;user b 0 9 1 9;fixed a 60;fixed b 60;").due("products 0", 4);
        Run.on("band 59;orders 6;user a 0 9 1 9;user b 0 9 1 9;fixed a 59;fixed b 58;").due("products 0", 2)
                .due("product 0 4", 57).due("product 1 4", 56);
        Run.on("band 60;orders 4;user a 0 9 1 9;user b 0 9 1 9;user c 0 9 1 9;fixed a 60;fixed b 60;fixed c 1;")
                .due("bySort 4 0", 2).due("bySort 5 0", 2);
    }

    @Says({"ORDER of sorts 0, 1 is 2 (bit 1 of orders),", "of 2, 3 it is 3 (bit 2),", "of 4, 5 it is 5 (bit 4):",
        "those whose bit is in orders."})
    static void terms_onlySortsWhoseOrdersBitIsToldMakeProducts() {
        for (int orders = 0; orders <= 7; orders++) {
            Run run = Run.on(ALL_SORTS.replace("orders 7", "orders " + orders));
            int[] each = {3, 3, 6, 3, 6, 6};
            for (int sort = 0; sort < 6; sort++) {
                boolean told = (orders & (sort < 2 ? 1 : sort < 4 ? 2 : 4)) != 0;
                run.due("bySort " + sort + " 0", told ? each[sort] : 0);
            }
            run.due("products 0", (orders & 1) * 6 + (orders >> 1 & 1) * 9 + (orders >> 2) * 12);
        }
    }

    @Says("LEVEL: POWERS, each as often as it is in it (without sign), together, less LOSS of the ORDER.")
    static void terms_levelIsPowersAsOftenAsTheyAreInItLessLoss() {
        // Powers 1, 2 and 4 without LOSS are in the lists of sorts above; with LOSS 10, 20 and 30 of the ORDERS:
        Run run = Run.on(ALL_SORTS.replace("loss 0 0 0", "loss 10 20 30"));
        run.due("product 0 5", 3 - 10).due("product 3 5", 3 - 10).due("product 6 5", 4 - 20)
                .due("product 12 5", 7 - 20);
        run.due("product 15 5", 7 - 30).due("product 21 5", 12 - 30);
        // The greatest and the least there are.
        Run.on("orders 4;loss 0 0 0;user a 0 30 1 30;user b 0 30 1 30;fixed a 9;fixed b 9;").due("product 0 5", 150);
        Run.on("orders 4;loss 0 0 99;user a 0 0 1 30;user b 0 0 1 30;fixed a 9;fixed b 9;").due("product 0 5", -99);
    }

    @Says("It is HEARD, if LEVEL is 0 or more.")
    static void terms_aProductIsHeardFromLevelZeroOn() {
        Run.on(SECOND).due("power 0 2", 3).due("product 0 5", 0).due("products 1", 6).due("power 0 1", 2)
                .due("product 0 5", -1).due("products 1", 2).due("products 0", 6).due("product 0 6", 0);
    }

    @Says("In order: PRODUCTS by SITE, sort, a, b, c.")
    static void terms_productsComeBySiteSortABC() {
        // SITES 2, 0, 1, 0, 2, 1: a and e of 2, b and d of 0, c and f of 1; a sum and a difference of each.
        Run run = Run.on("orders 1;user a 2 9 1 30;user b 0 9 1 30;user c 1 9 1 30;user d 0 9 1 30;user e 2 9 1 30;"
                + "user f 1 9 1 30;fixed a 1;fixed b 2;fixed c 3;fixed d 4;fixed e 5;fixed f 6;").due("products 0", 6);
        lists(run, 0, new int[][] {{0, 1, 3, -2, 6}, {1, 3, 1, -2, 2}, {0, 2, 5, -2, 9}, {1, 5, 2, -2, 3}, {0, 0, 4, -2, 6},
            {1, 4, 0, -2, 4}});
        // Four of one SITE, 10, 11, 13 and 17: all twelve of twice a less b, then all twelve of a and b less c.
        run = Run.on("band 60;user a 0 9 1 60;user b 0 9 1 60;user c 0 9 1 60;user d 0 9 1 60;fixed a 10;fixed b 11;"
                + "fixed c 13;fixed d 17;").due("products 0", 24);
        lists(run, 0, new int[][] {{2, 0, 1, -2, 9}, {2, 0, 2, -2, 7}, {2, 0, 3, -2, 3}, {2, 1, 0, -2, 12}, {2, 1, 2, -2, 9},
            {2, 1, 3, -2, 5}, {2, 2, 0, -2, 16}, {2, 2, 1, -2, 15}, {2, 2, 3, -2, 9}, {2, 3, 0, -2, 24}, {2, 3, 1, -2, 23},
            {2, 3, 2, -2, 21}, {3, 0, 1, 2, 8}, {3, 0, 1, 3, 4}, {3, 0, 2, 1, 12}, {3, 0, 2, 3, 6}, {3, 0, 3, 1, 16},
            {3, 0, 3, 2, 14}, {3, 1, 2, 0, 14}, {3, 1, 2, 3, 7}, {3, 1, 3, 0, 18}, {3, 1, 3, 2, 15}, {3, 2, 3, 0, 20},
            {3, 2, 3, 1, 19}});
    }

    // ---- HITS

    @Says({"PRODUCTS, of USERS of one SITE", "HITS a USER with a CHANNEL who isn't in it"})
    static void terms_usersThatAreNotRightMakeProductsAndAreHit() {
        // All are beyond their stretches; all are on BLOCKED CHANNELS, and what they make is, too.
        for (String text : new String[] {SECOND.replace(" 1 30;", " 30 30;"), SECOND + "block 1 30;"}) {
            Run run = Run.on(text).due("user 0 5", 0).due("user 1 5", 0).due("user 2 5", 0);
            run.row("products", 6, 6, 3, 0).row("hits", 1, 1, 1).due("hitBy 0 0", 5).due("hitBy 1 0", 4)
                    .due("hitBy 2 0", 0).row("when", 255, 255, 255).row("clearance", 0, 0, 0);
            run.row("bySort 0", 3, 3, 1).row("bySort 1", 3, 3, 2).due("worst", 0).row("rank", 0, 1, 2).due("loudest", 0)
                    .row("nearest", 1, 0, 1);
        }
    }

    @Says({"PRODUCTS, of USERS of one SITE", "HITS a USER with a CHANNEL who isn't in it"})
    static void terms_usersThatCrowdMakeProductsAndAreHit() {
        // a's 4 and b's 6 are too near; that is no HIT.
        Run.on("space 3;" + SECOND).row("products", 6, 6, 3, 1).row("hits", 1, 1, 1).row("when", 255, 255, 255)
                .row("clearance", 0, 0, 0).row("bySort 0", 3, 3, 1).row("bySort 1", 3, 3, 2).due("worst", 0)
                .row("rank", 0, 1, 2).due("loudest", 0).row("nearest", 1, 0, 1);
        Run.on(CROWD + "5;").row("products", 0, 0, 0, 1).row("hits", 0, 0).row("when", 0, 0).row("clearance", -2, -2)
                .due("worst", -2).due("loudest", -2);
    }

    @Says("A PRODUCT that is HEARD HITS")
    static void terms_onlyWhatIsHeardHits() {
        for (int site = 0; site < 3; site++) {
            String own = SECOND.replace(" 0 3 ", " " + site + " 3 ");
            Run.on("loss 6 0 0;" + own).due("product 0 5", 0).due("products 2", 3).due("hits 0", 1);
            Run.on("loss 7 0 0;" + own).due("product 0 5", -1).due("products 2", 0).due("hits 0", 0);
        }
        // Nor by a link of LOSS 0.
        Run.on("loss 7 0 0;link 0 2 0;" + APART).due("product 0 5", -1).due("hits 2", 0);
        Run.on("loss 6 0 0;link 0 2 0;" + APART).due("product 0 5", 0).due("hits 2", 1);
    }

    @Says("a USER with a CHANNEL")
    static void terms_whoHasNoChannelIsntHit() {
        // b less a is 2, which is no farther than guard from 0.
        Run.on("guard 5;" + SECOND).due("tune 2 0", 10).due("product 1 4", 2).due("product 1 6", 0).due("products 2", 0)
                .due("tune 2 1", 0).due("hits 2", 1);
    }

    @Says("who isn't in it")
    static void terms_whoIsInAProductIsntHitByIt() {
        // Of two, both are in all; of three, all are in those of sorts 3 and 5.
        Run.on("band 60;orders 7;guard 5;loss 0 0 0;user a 0 1 1 60;user b 0 2 1 60;fixed a 20;fixed b 21;")
                .due("products 0", 6)
                .due("products 2", 0).due("hits 0", 0).due("hits 1", 0);
        Run.on("guard 5;" + ALL_SORTS).due("bySort 3 2", 0).due("bySort 5 2", 0).due("bySort 3 1", 3)
                .due("bySort 5 1", 6);
        // Sort 2: 19 of a and b, 17 of a and c, 22 of b and a, 26 of c and a, 25 of c and b: only who isn't in it.
        Run.on("guard 5;" + ALL_SORTS).due("product 6 6", 4).due("product 7 6", 2).due("product 8 6", 4)
                .due("product 10 6", 2)
                .due("product 11 6", 1);
    }

    @Says("and has a SLOT in common with all who are,")
    static void terms_whoIsHitHasASlotInCommonWithAllInIt() {
        Run.on(SECOND + "slots a 3;slots b 6;slots c 2;").due("hits 2", 1).due("slots 2 253", 2).due("hits 2", 0)
                .due("slots 2 5", 253).due("hits 2", 0).due("slots 2 255", 5).due("hits 2", 1);
        Run.on(APART + "link 0 2 0;slots c 128;").due("hits 2", 1).due("slots 0 127", 255).due("hits 2", 0);
    }

    @Says("if its CHANNEL is no farther than guard from it;")
    static void terms_aHitIsNoFartherThanGuard() {
        // a and b are 10, and c, which is alone at its SITE, is hit from 10 - guard to 10 + guard.
        String far = APART.replace("fixed b 6", "fixed b 5").replace("fixed a 4", "fixed a 5") + "link 0 2 0;";
        for (int guard = 0; guard <= 5; guard++) {
            Run.on("guard " + guard + ";" + far).due("products 0", 1).due("hits 2", 1)
                    .due("tune 2 " + (10 - guard), 10).due("hits 2", 1).due("tune 2 " + (9 - guard), 10 - guard)
                    .due("hits 2", 0)
                    .due("tune 2 " + (10 + guard), 9 - guard).due("hits 2", 1)
                    .due("tune 2 " + (11 + guard), 10 + guard).due("hits 2", 0);
        }
        // At the ends: a PRODUCT on 1, and one on 60.
        Run.on("guard 5;band 60;orders 1;user a 0 9 1 60;user b 0 9 1 60;user c 1 9 1 60;link 0 1 0;fixed a 30;fixed b 31;")
                .due("tune 2 6", 0).due("hits 2", 1).due("tune 2 7", 6).due("hits 2", 0).due("tune 2 1", 7)
                .due("hits 2", 1)
                .due("tune 2 60", 1).due("hits 2", 0).due("tune 1 30", 31).due("product 0 4", 60).due("hits 2", 1)
                .due("tune 2 55", 60).due("hits 2", 1).due("tune 2 54", 55).due("hits 2", 0);
    }

    @Says("of its SITE,")
    static void terms_aProductHitsAUserOfItsSite() {
        for (int site = 0; site < 3; site++) {
            Run.on(SECOND.replace(" 0 3 ", " " + site + " 3 ")).due("hits 0", 1).due("hits 1", 1).due("hits 2", 1);
        }
        Run.on(APART).due("hits 2", 0);
    }

    @Says("or of one that is linked with it, if LEVEL less the LOSS of the link is 0 or more.")
    static void terms_aProductHitsAUserOfALinkedSiteByItsLevel() {
        Run.on(APART + "link 0 2 1;").due("hits 2", 1);
        Run.on(APART + "link 2 0 1;").due("hits 2", 1);
        Run.on(APART + "link 0 2 2;").due("hits 2", 0);
        Run.on(APART + "link 0 2 0;").due("hits 2", 1);
        // By way of a third SITE none is linked.
        Run.on(APART + "link 0 1 0;link 1 2 0;").due("hits 2", 0);
        // The greatest LEVEL of sort 0 is 60 here, and 60 is its LOSS, or more.
        String loud = "loss 0 0 0;" + APART.replace(" 3 1 30", " 30 1 30");
        Run.on(loud + "link 0 2 60;").due("hits 2", 1);
        Run.on(loud + "link 0 2 61;").due("hits 2", 0);
        Run.on(loud + "link 0 2 99;").due("hits 2", 0);
        for (String sites : new String[] {"0 1", "0 2", "1 0", "1 2", "2 0", "2 1"}) {
            String from = sites.substring(0, 1);
            String to = sites.substring(2);
            String text = "orders 1;user a " + from + " 3 1 30;user b " + from + " 3 1 30;user c " + to + " 3 1 30;"
                    + "fixed a 4;fixed b 6;fixed c 10;";
            Run.on(text + "link " + sites + " 1;").due("hits 2", 1).due("ifTuned 2 10", 1).due("fits 2 10", 0);
            Run.on(text + "link " + sites + " 2;").due("hits 2", 0).due("ifTuned 2 10", 0).due("fits 2 10", 1);
        }
    }

    // ---- CROWDS, RIGHT, CLEAN

    @Says("Two USERS of one SITE with CHANNELS and a SLOT in common CROWD, if these are nearer than space.")
    static void terms_twoCrowdIfNearerThanSpace() {
        Run.on(CROWD + "5;").due("crowds 0", 2).due("crowds 1", 1).due("tune 1 6", 5).due("crowds 0", 0)
                .due("tune 1 4", 6)
                .due("crowds 0", 0);
        Run.on("space 20;" + CROWD + "24;").due("crowds 0", 2).due("tune 1 25", 24).due("crowds 0", 0);
        Run.on("space 20;" + CROWD + "24;").due("tune 0 30", 5).due("crowds 0", 2).due("tune 1 11", 24)
                .due("crowds 0", 2)
                .due("tune 1 10", 11).due("crowds 0", 0).due("crowds 1", 0);
        // Of one SITE, with CHANNELS, with a SLOT in common.
        Run.on("orders 0;user a 0 0 1 30;user b 1 0 1 30;link 0 1 0;fixed a 5;fixed b 5;").due("crowds 0", 0);
        Run.on("space 20;" + CROWD + "1;").due("tune 0 0", 5).due("crowds 0", 0).due("crowds 1", 0).due("tune 1 0", 1)
                .due("crowds 0", 0).due("products 3", 0);
        Run.on(CROWD + "5;slots a 127;slots b 128;").due("crowds 0", 0).due("slots 0 128", 127).due("crowds 0", 2)
                .due("slots 1 1", 128).due("crowds 0", 0);
    }

    @Says("A USER is RIGHT, if its CHANNEL is LOW .. HIGH and not BLOCKED.")
    static void terms_aUserIsRightFromLowToHighIfNotBlocked() {
        Run run = Run.on("user a 0 0 5 8;block 7 7;");
        int[] right = {0, 0, 0, 0, 1, 1, 0, 1, 0, 0};
        for (int channel = 1; channel <= 10; channel++) {
            run.due("tune 0 " + channel, channel - 1).due("user 0 5", right[channel - 1]);
        }
        Run.on("band 60;user a 0 0 60 60;fixed a 60;").due("user 0 5", 1).due("block 60", 1).due("user 0 5", 0);
    }

    @Says("All is CLEAN, if each USER with a CHANNEL is RIGHT,")
    static void terms_cleanIfEachWithAChannelIsRight() {
        Run.on("orders 0;user a 0 0 5 8;user b 1 0 5 8;block 7 7;").due("clean", 1).due("tune 1 4", 0).due("clean", 0)
                .due("tune 1 5", 4).due("clean", 1).due("tune 1 8", 5).due("clean", 1).due("tune 1 9", 8)
                .due("clean", 0)
                .due("tune 1 7", 9).due("clean", 0).due("tune 1 0", 7).due("clean", 1).due("tune 0 9", 0)
                .due("clean", 0);
    }

    @Says("none CROWD,")
    static void terms_cleanIfNoneCrowd() {
        Run.on(CROWD + "5;").due("clean", 0).due("tune 1 6", 5).due("clean", 1);
        Run.on("space 20;" + CROWD + "24;").due("clean", 0).due("tune 1 25", 24).due("clean", 1);
    }

    @Says("nothing HITS.")
    static void terms_cleanIfNothingHits() {
        Run.on(SECOND).due("clean", 0).due("tune 2 11", 10).due("clean", 1);
        Run.on(APART + "link 0 2 1;").due("clean", 0);
        Run.on(APART + "link 0 2 2;").due("clean", 1);
        Run.on("guard 1;" + APART + "link 0 2 0;").due("tune 2 11", 10).due("clean", 0).due("tune 2 12", 11)
                .due("clean", 1);
        Run.on(ALL_SORTS).due("clean", 0).due("power 0 0", 1).due("clean", 0).due("tune 2 24", 23).due("clean", 1);
    }

    // ---- promise 14

    @Says("How many PRODUCTS there are (what 0),")
    static void p14_productsThereAre() {
        Run.fresh().due("products 0", 0);
        Run.on(ALL_SORTS).due("products 0", 27);
        // Six of one SITE make the most there can be: 15, 15, 30, 60, 30 and 120, less what isn't 1 .. BAND.
        Run.on("band 60;orders 7;user a 0 0 1 60;user b 0 0 1 60;user c 0 0 1 60;user d 0 0 1 60;user e 0 0 1 60;"
                + "user f 0 0 1 60;fixed a 25;fixed b 26;fixed c 27;fixed d 28;fixed e 29;fixed f 30;")
                .due("bySort 0 0", 15).due("bySort 1 0", 15).due("bySort 2 0", 30).due("bySort 3 0", 60)
                .due("bySort 4 0", 30)
                .due("bySort 5 0", 120).due("products 0", 270).due("products 1", 0).due("product 269 0", 5)
                .due("product 270 0", -1000);
    }

    @Says("that are HEARD (1),")
    static void p14_productsThatAreHeard() {
        Run.on(SECOND).due("products 1", 6).due("power 2 1", 3).due("products 1", 2).due("power 2 2", 1)
                .due("products 1", 6)
                .due("power 0 0", 3).due("power 1 0", 3).due("power 2 0", 2).due("products 1", 0);
    }

    @Says("of all HITS how many (2: of each PRODUCT each USER),")
    static void p14_hitsOfEachProductEachUser() {
        Run.on(SECOND).due("products 2", 3);
        // One PRODUCT that HITS two USERS, and none else.
        Run.on(APART + "user d 1 3 1 30;fixed d 10;link 0 1 0;link 0 2 0;").due("product 0 6", 12).due("products 2", 2);
        Run.on(CROWD + "5;").due("products 2", 0);
    }

    @Says("couples that CROWD (3);")
    static void p14_couplesThatCrowd() {
        Run.on(CROWD + "5;").due("products 3", 1);
        Run.on("space 2;" + CROWD + "6;user c 0 0 1 30;fixed c 7;").due("products 3", 2).due("tune 2 6", 7)
                .due("products 3", 3);
        String six = "orders 0;user a 0 0 1 30;user b 0 0 1 30;user c 0 0 1 30;user d 0 0 1 30;user e 0 0 1 30;user f 0 0 1 30;"
                + "fixed a 1;fixed b 1;fixed c 1;fixed d 1;fixed e 1;fixed f 1;";
        Run.on(six).due("products 3", 15).due("tune 0 2", 1).due("products 3", 10);
        Run.fresh().due("products 3", 0);
    }

    @Says("NONE for another what.")
    static void p14_anotherWhatIsNone() {
        Run.on(SECOND).refused(-1, "products #", -1, 4, 5, Run.BIG, Run.SMALL);
    }

    // ---- promise 15

    @Says("Of the k-th PRODUCT (0 on, HEARD or not),")
    static void p15_productCountsThoseThatArentHeardToo() {
        // a's aren't heard, b's and c's are: all the same the places go on.
        Run.on(SECOND).due("power 0 0", 3).due("product 0 5", -2).due("product 2 5", 1).due("product 3 5", -2)
                .due("product 5 5", 1).due("product 5 4", 4);
    }

    @Says("what 0 its sort,")
    static void p15_productSort() {
        Run.on(SECOND).due("product 0 0", 0).due("product 2 0", 0).due("product 3 0", 1).due("product 5 0", 1);
        Run.on(ALL_SORTS).due("product 26 0", 5).due("product 20 0", 4).due("product 21 0", 5);
    }

    @Says("1 a,")
    static void p15_productA() {
        Run.on(SECOND).due("product 0 1", 0).due("product 2 1", 1).due("product 3 1", 1).due("product 5 1", 2);
        Run.on(ALL_SORTS).due("product 26 1", 2);
    }

    @Says("2 b,")
    static void p15_productB() {
        Run.on(SECOND).due("product 0 2", 1).due("product 2 2", 2).due("product 3 2", 0).due("product 5 2", 1);
        Run.on(ALL_SORTS).due("product 26 2", 1);
    }

    @Says("3 c (-2: none),")
    static void p15_productC() {
        Run.on(ALL_SORTS).due("product 0 3", -2).due("product 5 3", -2).due("product 11 3", -2).due("product 20 3", -2)
                .due("product 12 3", 2).due("product 14 3", 0).due("product 26 3", 0);
    }

    @Says("4 its CHANNEL,")
    static void p15_productChannel() {
        Run.on(SECOND).due("product 0 4", 10).due("product 3 4", 2).due("product 5 4", 4);
    }

    @Says("5 LEVEL,")
    static void p15_productLevel() {
        // NONE is also a LEVEL: -1.
        Run.on(SECOND).due("product 0 5", 1).due("power 0 1", 3).due("product 0 5", -1).due("product 2 5", 1);
    }

    @Says("6 whom it HITS, as bits;")
    static void p15_productHits() {
        Run.on(SECOND).due("product 0 6", 4).due("product 1 6", 0).due("product 4 6", 2).due("product 5 6", 1);
        // Four that one PRODUCT hits.
        Run.on(APART + "user d 1 3 1 30;user e 2 3 1 30;user f 1 3 1 30;fixed d 10;fixed e 10;fixed f 10;link 0 1 0;link 0 2 0;")
                .due("product 0 6", 60);
    }

    @Says("NONE - 999: no such ones.")
    static void p15_noSuchProductOrWhat() {
        Run.on(SECOND).refused(-1000, "product # 0", -1, 6, 7, 700, Run.BIG, Run.SMALL)
                .refused(-1000, "product 0 #", -1, 7, 8, Run.BIG, Run.SMALL).refused(-1000, "product # 7", 6, -1, 5);
        Run.fresh().refused(-1000, "product # 0", 0, -1, 1);
    }

    // ---- promise 16

    @Says("How many PRODUCTS HIT a USER;")
    static void p16_hitsOfAUser() {
        Run.on(SECOND).due("hits 0", 1).due("hits 1", 1).due("hits 2", 1).due("tune 2 11", 10).due("hits 2", 0);
        // 1 and 9, 2 and 8 are e's 10.
        Run.on("orders 1;user a 0 9 1 30;user b 0 9 1 30;user c 0 9 1 30;user d 0 9 1 30;user e 1 9 1 30;link 0 1 0;"
                + "fixed a 1;fixed b 9;fixed c 2;fixed d 8;fixed e 10;").due("hits 4", 2).due("tune 4 17", 10)
                .due("hits 4", 1)
                .due("tune 4 18", 17).due("hits 4", 0);
    }

    @Says("-2: it has no CHANNEL;")
    static void p16_hitsOfAUserWithoutAChannel() {
        Run.on(SECOND).due("tune 2 0", 10).due("hits 2", -2).due("hits 1", 0).due("tune 2 10", 0).due("hits 2", 1);
    }

    @Says("NONE: no such USER.")
    static void p16_hitsOfNoSuchUserIsNone() {
        Run.on(SECOND).refused(-1, "hits #", -1, 3, 6, 31, 32, Run.BIG, Run.SMALL);
        Run.fresh().refused(-1, "hits #", 0, -1);
    }

    // ---- promise 17

    @Says("The k-th PRODUCT (0 on) that HITS a USER: its place among all;")
    static void p17_hitByAnswersThePlaceAmongAll() {
        // Of 1, 9, 2 and 8 the sums are 10, 3, 9, 11, 17 and 10, ahead of all differences.
        Run.on("orders 1;user a 0 9 1 30;user b 0 9 1 30;user c 0 9 1 30;user d 0 9 1 30;user e 1 9 1 30;link 0 1 0;"
                + "fixed a 1;fixed b 9;fixed c 2;fixed d 8;fixed e 10;").row("hitBy 4", 0, 5, -2)
                .due("product 0 4", 10).due("product 3 4", 11).due("product 5 4", 10);
    }

    @Says("-2: there are not so many;")
    static void p17_hitByBeyondTheLast() {
        Run.on(SECOND).row("hitBy 0", 5, -2, -2).due("hitBy 0 MAX", -2).due("tune 0 0", 4).due("hitBy 0 0", -2)
                .due("hitBy 1 0", -2);
        Run.on(CROWD + "6;").due("hitBy 0 0", -2);
    }

    @Says("NONE: no such ones.")
    static void p17_hitByOfNoSuchUserOrKIsNone() {
        Run.on(SECOND).refused(-1, "hitBy # 0", -1, 3, 6, 32, Run.BIG, Run.SMALL)
                .refused(-1, "hitBy 0 #", -1, -2, Run.SMALL);
        Run.fresh().refused(-1, "hitBy # 0", 0, -1);
    }

    // ---- promise 18

    @Says("USERS, as bits, with which a USER CROWDS;")
    static void p18_crowdsAsBits() {
        Run.on("space 3;" + CROWD + "7;user c 1 0 1 30;user d 0 0 1 30;user e 0 0 1 30;user f 0 0 1 30;"
                + "fixed c 5;fixed d 8;fixed e 4;fixed f 3;").row("crowds", 50, 9, 0, 2, 33, 17);
        Run.on(CROWD + "6;").row("crowds", 0, 0);
    }

    @Says("NONE: no such USER.")
    static void p18_crowdsOfNoSuchUserIsNone() {
        Run.on(CROWD + "5;").refused(-1, "crowds #", -1, 2, 6, 8, Run.BIG, Run.SMALL);
        Run.fresh().refused(-1, "crowds #", 0, -1);
    }

    // ---- promise 19

    @Says("Whether all is CLEAN (1, 0).")
    static void p19_clean() {
        Run.fresh().idle("clean", 1);
        Run.on(SECOND).idle("clean", 0).due("tune 0 0", 4).due("clean", 1).due("undo", 0).due("clean", 0);
        Run.on(CROWD + "5;").due("clean", 0);
        Run.on("user a 0 0 2 2;fixed a 1;").due("clean", 0).due("tune 0 2", 1).due("clean", 1).due("tune 0 3", 2)
                .due("clean", 0);
    }

    // ---- promise 28

    @Says("The USER by whom most HITS are made (of PRODUCTS it is in), the first;")
    static void p28_worstMakesMostHitsAndIsTheFirst() {
        Run.on(SECOND).due("worst", 0).due("power 0 1", 3).due("worst", 1);
        // d is of no PRODUCT; of a, b and c the PRODUCT of b and c is on d's 16, too.
        Run.on(SECOND + "user d 1 3 1 30;fixed d 16;link 0 1 0;").due("products 2", 4).due("worst", 1)
                .due("tune 3 14", 16)
                .due("worst", 0).due("tune 3 10", 14).due("worst", 0);
        // HITS count, not PRODUCTS.
        Run.on(ONE_AND_TWO).due("products 2", 3).due("worst", 2);
        // Who is hit isn't who makes it: a and b hit c.
        Run.on("orders 1;user c 1 3 1 30;user a 0 3 1 30;user b 0 3 1 30;link 0 1 0;fixed a 4;fixed b 6;fixed c 10;")
                .due("worst", 1);
        // A c of a PRODUCT makes it as well: 10 and 12 less 9 is d's 13; twice b less c, 24 - 9, is e's 15.
        Run.on("user a 0 9 1 30;user b 0 9 1 30;user c 0 9 1 30;user d 1 9 1 30;user e 1 9 1 30;link 0 1 0;"
                + "fixed a 10;fixed b 12;fixed c 9;fixed d 13;fixed e 15;slots e 1;").due("products 2", 2)
                .due("worst", 1)
                .due("rank 1", 2).due("rank 2", 0);
    }

    @Says("-2: there are no HITS.")
    static void p28_worstWithoutHits() {
        Run.fresh().due("worst", -2);
        Run.on(CROWD + "5;").due("worst", -2);
        Run.on(SECOND).due("tune 2 11", 10).due("worst", -2);
    }

    // ---- promise 30

    @Says({"Of a sort 0 .. 5,", "what 0 how many PRODUCTS, 1 that are HEARD, 2 HITS;"})
    static void p30_bySort() {
        Run.on(SECOND).row("bySort 0", 3, 3, 1).row("bySort 1", 3, 3, 2).row("bySort 2", 0, 0, 0)
                .row("bySort 5", 0, 0, 0)
                .due("power 0 1", 3).row("bySort 0", 3, 1, 0).row("bySort 1", 3, 1, 1);
        Run.on(ALL_SORTS).row("bySort 4", 6, 6, 1).row("bySort 5", 6, 6, 0).row("bySort 3", 3, 3, 0)
                .row("bySort 2", 6, 6, 0);
        // Each USER that a PRODUCT HITS counts.
        Run.on(APART + "user d 1 3 1 30;fixed d 10;link 0 1 0;link 0 2 0;").row("bySort 0", 1, 1, 2);
        Run.on(SECOND.replace("orders 1", "orders 2").replace(" 3 1 30", " 9 1 30")
                + "user d 1 0 1 30;fixed d 8;link 0 1 0;")
                .row("bySort 2", 5, 5, 1).row("bySort 3", 2, 2, 1);
        Run.fresh().row("bySort 0", 0, 0, 0);
    }

    @Says("NONE: no such ones.")
    static void p30_bySortOfNoSuchSortOrWhatIsNone() {
        Run.on(SECOND).refused(-1, "bySort # 0", -1, 6, 7, Run.BIG, Run.SMALL)
                .refused(-1, "bySort 0 #", -1, 3, 4, Run.BIG, Run.SMALL);
    }

    // ---- promise 31

    @Says("The place of the PRODUCT that HITS any USER and has the greatest LEVEL, the first;")
    static void p31_loudestOfThoseThatHit() {
        // Of alike LEVELS the first; then c's are louder; then b's, of which a and b's is the first.
        Run.on(SECOND).due("loudest", 0).due("power 2 4", 3).due("loudest", 4).due("power 2 3", 4).due("power 1 4", 3)
                .due("loudest", 0).due("power 0 2", 3).due("loudest", 5);
        // The loudest of all, c and d's, HITS none.
        Run.on(SECOND + "user d 0 30 1 30;fixed d 29;").due("products 2", 3).due("product 5 0", 1).due("loudest", 0);
    }

    @Says("-2: none HITS.")
    static void p31_loudestWithoutHits() {
        Run.fresh().due("loudest", -2);
        Run.on(SECOND).due("tune 2 11", 10).due("products 0", 6).due("loudest", -2);
    }

    // ---- promise 35

    @Says("SLOTS, as bits, in which there is a PRODUCT that HITS a USER")
    static void p35_whenJoinsTheSlotsOfAllProductsThatHit() {
        Run.on(SECOND).row("when", 255, 255, 255).due("tune 2 11", 10).row("when", 0, 0, 0);
        // 1 and 9 in SLOT 1, 2 and 8 in SLOT 4 are e's 10.
        Run.on("orders 1;user a 0 9 1 30;user b 0 9 1 30;user c 0 9 1 30;user d 0 9 1 30;user e 1 9 1 30;link 0 1 0;"
                + "fixed a 1;fixed b 9;fixed c 2;fixed d 8;fixed e 10;slots a 1;slots b 1;slots c 4;slots d 4;")
                .due("when 4", 5).due("slots 4 4", 255).due("when 4", 4).due("slots 4 2", 4).due("when 4", 0)
                .due("tune 4 0", 10).due("when 4", 0);
    }

    @Says("(in common of all who are in it and the USER);")
    static void p35_whenIsInCommonOfAllInItAndTheUser() {
        Run.on(SECOND + "slots a 7;slots b 14;slots c 252;").due("when 2", 4).due("slots 2 130", 252).due("when 2", 2)
                .due("slots 0 129", 7).due("slots 1 192", 14).due("when 2", 128).due("when 0", 128).due("when 1", 128);
        // A PRODUCT of three: 3 and 9 less 4 is 8.
        Run.on("user a 0 9 1 30;user b 0 9 1 30;user c 0 9 1 30;user d 1 9 1 30;link 0 1 0;fixed a 3;fixed b 9;fixed c 4;"
                + "fixed d 8;slots a 31;slots b 62;slots c 124;slots d 247;").due("hits 3", 1).due("when 3", 20);
    }

    @Says("NONE: no such USER.")
    static void p35_whenOfNoSuchUserIsNone() {
        Run.on(SECOND).refused(-1, "when #", -1, 3, 6, 32, Run.BIG, Run.SMALL);
        Run.fresh().refused(-1, "when #", 0, -1);
    }

    // ---- promise 36

    @Says("How far the CHANNEL of a USER is from the nearest PRODUCT that would HIT it, were guard great enough (0 .. 59);")
    static void p36_clearanceIsHowFarTheNearestIs() {
        // a and b are 10, b less a is 2.
        Run.on(APART + "link 0 2 1;").due("clearance 2", 0).due("tune 2 11", 10).due("clearance 2", 1)
                .due("tune 2 6", 11)
                .due("clearance 2", 4).due("tune 2 5", 6).due("clearance 2", 3).due("tune 2 1", 5).due("clearance 2", 1)
                .due("tune 2 30", 1).due("clearance 2", 20);
        // Whatever guard is.
        Run.on("guard 5;" + APART + "link 0 2 1;").due("clearance 2", 0).due("tune 2 30", 10).due("clearance 2", 20);
        // 31 less 30 is 1, and 61 is none: 59 from 60.
        Run.on("band 60;orders 1;user a 0 9 1 60;user b 0 9 1 60;user c 1 9 1 60;link 0 1 0;fixed a 30;fixed b 31;fixed c 60;")
                .due("clearance 2", 59).due("tune 2 1", 60).due("clearance 2", 0);
    }

    @Says("-2: there is none such,")
    static void p36_clearanceWithoutAProductThatWouldHit() {
        Run.fresh().due("clearance 0", -1);
        Run.on(CROWD + "6;").due("clearance 0", -2);
        // Not of those it is in, not linked, too weakly linked, not heard, of no SLOT in common.
        Run.on(APART + "link 0 2 1;").due("clearance 0", -2).due("clearance 1", -2);
        Run.on(APART).due("clearance 2", -2);
        Run.on(APART + "link 0 2 2;").due("clearance 2", -2);
        Run.on(SECOND).due("power 0 1", 3).due("clearance 2", -2).due("power 0 2", 1).due("clearance 2", 0);
        Run.on(SECOND + "slots a 3;slots b 6;slots c 5;").due("clearance 2", -2).due("slots 2 2", 5)
                .due("clearance 2", 0);
    }

    @Says("it has no CHANNEL;")
    static void p36_clearanceWithoutAChannel() {
        Run.on(SECOND).due("clearance 2", 0).due("tune 2 0", 10).due("clearance 2", -2);
    }

    @Says("NONE: no such USER.")
    static void p36_clearanceOfNoSuchUserIsNone() {
        Run.on(SECOND).refused(-1, "clearance #", -1, 3, 6, 8, Run.BIG, Run.SMALL);
        Run.fresh().refused(-1, "clearance #", 0, -1);
    }

    // ---- promise 37

    @Says("The other USER of the SITE of a USER whose CHANNEL is nearest to its one, the first;")
    static void p37_nearestIsTheFirstOfTheNearest() {
        // d is of another SITE, and on a's CHANNEL.
        Run.on("orders 0;user a 0 0 1 30;user b 0 0 1 30;user c 0 0 1 30;user d 1 0 1 30;fixed a 10;fixed b 14;fixed c 6;"
                + "fixed d 10;").row("nearest", 1, 0, 0, -2).due("tune 2 7", 6).row("nearest", 2, 0, 0)
                .due("tune 1 13", 14).due("nearest 0", 1).due("tune 1 10", 13).row("nearest", 1, 0, 0);
        Run.on("band 60;orders 0;user a 2 0 1 60;user b 2 0 1 60;fixed a 1;fixed b 60;slots a 1;slots b 2;")
                .row("nearest", 1, 0);
    }

    @Says("-2: there is none,")
    static void p37_nearestWithoutAnother() {
        Run.on("user a 0 0 1 30;fixed a 5;").due("nearest 0", -2);
        Run.on("user a 0 0 1 30;user b 1 0 1 30;link 0 1 0;fixed a 5;fixed b 5;").row("nearest", -2, -2);
    }

    @Says("one of both has none;")
    static void p37_nearestWithoutAChannelOfOneOfBoth() {
        Run.on(CROWD + "6;").due("tune 0 0", 5).row("nearest", -2, -2).due("tune 1 0", 6).row("nearest", -2, -2)
                .due("tune 0 5", 0).row("nearest", -2, -2).due("tune 1 30", 0).row("nearest", 1, 0);
    }

    @Says("NONE: no such USER.")
    static void p37_nearestOfNoSuchUserIsNone() {
        Run.on(CROWD + "6;").refused(-1, "nearest #", -1, 2, 6, 8, Run.BIG, Run.SMALL);
        Run.fresh().refused(-1, "nearest #", 0, -1);
    }

    // ---- promise 38

    @Says("The greatest space 1 .. 20 by which none CROWD;")
    static void p38_mostSpace() {
        Run.fresh().due("mostSpace", 20);
        Run.on(CROWD + "6;").due("mostSpace", 1).due("tune 1 7", 6).due("mostSpace", 2).due("tune 1 24", 7)
                .due("mostSpace", 19)
                .due("tune 1 25", 24).due("mostSpace", 20).due("tune 1 26", 25).due("mostSpace", 20).due("tune 1 0", 26)
                .due("mostSpace", 20);
        // Whatever space is told; it stays.
        Run.on("space 20;" + CROWD + "8;").idle("mostSpace", 3).due("count 3", 20).due("crowds 0", 2);
        Run.on(CROWD + "8;user c 0 0 1 30;fixed c 10;").due("mostSpace", 2);
        // HITS and what isn't RIGHT don't matter.
        Run.on(SECOND).due("products 2", 3).due("mostSpace", 2);
        Run.on(CROWD.replace(" 1 30;", " 30 30;") + "8;").due("clean", 0).due("mostSpace", 3);
    }

    @Says("-2: by none.")
    static void p38_mostSpaceOfTwoOnOneChannel() {
        Run.on(CROWD + "5;").due("mostSpace", -2).due("slots 0 1", 255).due("slots 1 2", 255).due("mostSpace", 20);
    }

    // ---- promise 40

    @Says("The k-th USER (0 on) by HITS that are made (of PRODUCTS it is in), most first, then by numbers;")
    static void p40_rank() {
        Run.on(SECOND).row("rank", 0, 1, 2).due("power 0 1", 3).row("rank", 1, 2, 0);
        Run.on(SECOND + "user d 1 3 1 30;fixed d 16;link 0 1 0;").row("rank", 1, 2, 0, 3);
        // One that HITS two counts twice.
        Run.on(ONE_AND_TWO).row("rank", 2, 3, 0, 1, 4, 5, -1);
        Run.on("orders 1;user d 1 3 1 30;user a 0 3 1 30;user b 0 3 1 30;user c 1 3 1 30;link 0 1 0;fixed a 4;fixed b 6;"
                + "fixed c 10;fixed d 10;").row("rank", 1, 2, 0, 3, -1);
        Run.on(CROWD + "6;").row("rank", 0, 1, -1);
    }

    @Says("NONE: no such k.")
    static void p40_rankOfNoSuchKIsNone() {
        Run.on(SECOND).refused(-1, "rank #", -1, 3, 6, Run.BIG, Run.SMALL);
        Run.fresh().refused(-1, "rank #", 0, -1);
    }
}
