/** The sentences on what changes, is undone, kept and counted: Terms' part 4, promises 6 to 13, 41 and 45 to 48. */
public final class EdgeChangeTest {
    private static final String TWO = "band 20;user a 1 10 2 9;user b 0 20 1 20;block 3 4;fixed b 20;";
    /** Ten CHANNELS for two USERS that need none of the other's: a takes 1, b 2. */
    private static final String PAIR = "band 10;orders 0;user a 0 0 1 10;user b 0 0 1 10;";
    /** Behind 15 BLOCKED ones a takes 37: 16 LOOKS; b and c take 422, d and e 162: 600 in all. */
    private static final String LONG = "band 60;orders 0;space 20;block 22 36;user a 0 0 22 37;user b 1 0 1 60;"
            + "user c 1 0 1 20;user d 2 0 1 60;user e 2 0 1 7;";
    /** f looks at 60 with the 601st LOOK. */
    private static final String TOO_LONG = LONG + "user f 0 0 60 60;";

    public static void main(String[] args) {
        Edges.run(EdgeChangeTest.class);
    }

    // ---- ahead of the public face

    @Says("An object is used for at most 512 calls after it has been made;")
    static void head_the512thCallIsAnsweredLikeTheFirst() {
        Run run = Run.on(PAIR);
        int made = 3 + (PAIR.length() + 19) / 20 - 1;
        for (int call = made + 1; call <= 509; call++) {
            run.due("tune 0 " + (call % 10 + 1), call == made + 1 ? 0 : (call - 1) % 10 + 1);
        }
        run.due("count 7", 20).due("undo", 19).due("user 0 4", 508 % 10 + 1);
    }

    // ---- part 4

    @Says("Each call that changes something (also to what it is already) can be undone,")
    static void terms_allSixCallsThatChangeSomethingCanBeUndone() {
        Run.on(TWO).due("tune 1 20", 20).due("count 7", 1).due("undo", 0).channels(0, 20);
        Run.on(TWO).due("tune 0 0", 0).due("count 7", 1).due("undo", 0).channels(0, 20);
        Run.on(TWO).due("tune 1 7", 20).due("count 7", 1).due("undo", 0).channels(0, 20);
        Run.on(TWO).due("block 7", 1).due("count 7", 1).due("undo", 0).due("blocked 7", 0);
        Run.on(TWO).due("block 3", 0).due("count 7", 1).due("undo", 0).due("blocked 3", 1);
        Run.on(TWO).due("power 0 11", 10).due("count 7", 1).due("undo", 0).due("user 0 1", 10);
        Run.on(TWO).due("power 0 10", 10).due("count 7", 1).due("undo", 0).due("user 0 1", 10);
        Run.on(TWO).due("slots 0 11", 255).due("count 7", 1).due("undo", 0).due("user 0 6", 255);
        Run.on(TWO).due("slots 0 255", 255).due("count 7", 1).due("undo", 0).due("user 0 6", 255);
        Run.on(PAIR).due("complete", 3).channels(1, 2).due("count 7", 1).due("undo", 0).channels(0, 0);
        Run.on(PAIR + "fixed a 5;fixed b 5;").due("mend", 1).channels(1, 5).due("count 7", 1).due("undo", 0)
                .channels(5, 5);
    }

    @Says("the latest first")
    static void terms_theLatestChangeIsUndoneFirst() {
        Run.on(TWO).due("tune 0 5", 0).due("power 0 1", 10).due("block 3", 0).due("slots 1 7", 255).due("tune 0 6", 5)
                .due("undo", 4).due("user 0 4", 5).due("user 1 6", 7)
                .due("undo", 3).due("user 1 6", 255).due("blocked 3", 0)
                .due("undo", 2).due("blocked 3", 1).due("user 0 1", 1)
                .due("undo", 1).due("user 0 1", 10).due("user 0 4", 5)
                .due("undo", 0).due("user 0 4", 0);
        // What was undone is gone, as another change comes.
        Run.on(TWO).due("tune 0 5", 0).due("tune 0 6", 5).due("undo", 1).due("tune 0 7", 5).due("undo", 1)
                .channels(5).due("undo", 0).channels(0).due("undo", -1);
    }

    @Says("(20 at most).")
    static void terms_twentyChangesCanBeUndoneAndNoMore() {
        Run run = Run.on(TWO);
        for (int i = 1; i <= 19; i++) {
            run.due("tune 0 " + i, i - 1).due("count 7", i);
        }
        run.due("tune 0 20", 19).due("count 7", 20).due("undo", 19).due("tune 0 20", 19).due("count 7", 20);
        run.due("tune 0 1", 20).due("count 7", 20).due("tune 0 2", 1).due("count 7", 20);
        run.due("undo", 19).channels(1).due("undo", 18).channels(20);
        for (int left = 17; left >= 0; left--) {
            run.due("undo", left).due("user 0 4", left + 2);
        }
        run.due("undo", -1).channels(2);
        // Once full and emptied, it holds twenty again.
        for (int i = 1; i <= 25; i++) {
            run.due("power 1 " + i, i == 1 ? 20 : i - 1);
        }
        run.due("count 7", 20);
        for (int left = 19; left >= 0; left--) {
            run.due("undo", left).due("user 1 1", left + 5);
        }
        run.due("undo", -1).due("user 1 1", 5);
    }

    @Says("An IMAGE keeps CHANNELS, what is BLOCKED, POWERS, SLOTS.")
    static void terms_anImageKeepsChannelsBlockedPowersSlots() {
        Run.on(TWO).due("keep", 1).due("tune 0 5", 0).due("back", 1).channels(0, 20);
        Run.on(TWO).due("keep", 1).due("tune 1 0", 20).due("back", 1).channels(0, 20);
        Run.on(TWO).due("keep", 1).due("block 3", 0).due("block 20", 1).due("back", 1).due("blocked 3", 1)
                .due("blocked 20", 0).due("count 5", 2);
        Run.on(TWO).due("keep", 1).due("power 0 1", 10).due("power 1 1", 20).due("back", 1).due("user 0 1", 10)
                .due("user 1 1", 20);
        Run.on(TWO).due("keep", 1).due("slots 0 1", 255).due("slots 1 1", 255).due("back", 1).due("user 0 6", 255)
                .due("user 1 6", 255);
        // All six USERS are in it, the last one too.
        String six = "user a 0 0 1 1;user b 0 0 1 1;user c 0 0 1 1;user d 0 0 1 1;user e 0 0 1 1;user f 0 0 1 1;";
        Run.on(six).due("tune 5 9", 0).due("power 5 8", 0).due("slots 5 7", 255).due("keep", 1).due("tune 5 1", 9)
                .due("power 5 1", 8).due("slots 5 1", 7).due("undo", 5).due("undo", 4).due("undo", 3)
                .row("user 5", 0, 8, 1, 1, 9, 0, 7).due("tune 5 2", 9).due("power 5 2", 8).due("slots 5 2", 7)
                .due("back", 1).row("user 5", 0, 8, 1, 1, 9, 0, 7);
    }

    @Says("Of several answers that hold NONE goes first, then -2, then -3;")
    static void terms_noneGoesAheadOfMinusTwoAheadOfMinusThree() {
        // planned: no such USER, while the SEARCH gives up; a USER that has one, while it gives up.
        Run run = Run.on(TOO_LONG + "fixed f 60;");
        run.due("planned 6", -1).due("planned 5", -2);
        run = Run.on(TOO_LONG).due("planned 6", -1).due("planned -1", -1).due("planned 5", -3).due("complete", -3);
        run.due("tune 0 37", 0).due("tune 5 60", 0).due("planned 5", -2).due("planned 1", 21);
        // No such USER, and not so many; no such k.
        Run.on(PAIR).due("hitBy 2 0", -1).due("hitBy 0 -1", -1).due("hitBy 0 0", -2).due("freeAt 2 99", -1)
                .due("freeAt 0 -1", -1).due("freeAt 0 99", -2);
        // A ninth one of a ROW that there is none of.
        Run.fresh().due("grown 8 0 1 8", -1).due("grown 0 6 1 8", -1).due("grown 0 0 21 8", -1)
                .due("grown 0 0 1 8", -2);
        // SITES that aren't unlike, and no such ones, have no link either.
        Run.fresh().due("linked 0 0", -1).due("linked 0 3", -1).due("linked 0 1", -2);
        Run.on(PAIR).due("hits 2", -1).due("hits 1", -2).due("clearance 2", -1).due("clearance 1", -2)
                .due("nearest 2", -1)
                .due("nearest 1", -2);
        Run.on(PAIR + "block 1 10;").due("quietest 2", -1).due("quietest 1", -2);
    }

    @Says("IndexOutOfBoundsException ahead of NoSuchElementException, both ahead of numbers.")
    static void terms_noSuchUserGoesAheadOfNoSuchWhat() {
        Run.on(TWO).thrown("IndexOutOfBoundsException", "user 2 7", "user -1 -1", "user MIN MIN", "user MAX MAX", "user 2 0")
                .thrown("NoSuchElementException", "user 0 7", "user 1 -1");
        Run.fresh().thrown("IndexOutOfBoundsException", "user 0 0", "user 0 7", "user 0 -1");
    }

    @Says("A call that is refused changes nothing.")
    static void terms_aRefusedCallChangesNothing() {
        Run run = Run.on(TWO).due("keep", 1).due("tune 0 5", 0).due("power 0 9", 10);
        String before = run.state();
        run.due("tune 2 5", -1).due("tune 0 21", -1).due("block 21", -1).due("block 0", -1).due("power 0 31", -1)
                .due("power 2 5", -1).due("slots 0 0", -1).due("slots 2 5", -1).due("text 1", -2).due("text -1", -2)
                .due("chance 0 21 0", -1).due("grown 0 0 0 0", -1).thrown("IndexOutOfBoundsException", "user 2 0")
                .thrown("NoSuchElementException", "user 0 7").due("ifTuned 0 21", -1).due("fits 0 0", -1);
        if (!run.state().equals(before)) {
            throw new Run.Wrong("was " + before + " and is " + run.state());
        }
        // Nor what can be undone, nor the IMAGE.
        run.due("undo", 1).due("user 0 1", 10).channels(5, 20).due("undo", 0).channels(0, 20).due("undo", -1)
                .due("back", 1)
                .channels(0, 20);
        Run.fresh().idle("back", -1).idle("undo", -1);
    }

    // ---- promise 6

    @Says("A USER has a CHANNEL 1 .. BAND,")
    static void p06_tuneTakesOneToBand() {
        Run.on(TWO).due("tune 0 1", 0).channels(1, 20).due("tune 0 20", 1).channels(20, 20).due("tune 1 1", 20)
                .channels(20, 1);
        Run.on("band 60;user a 0 0 1 1;").due("tune 0 60", 0).channels(60).due("tune 0 1", 60).channels(1);
        Run.on("band 4;user a 0 0 1 1;").due("tune 0 4", 0).due("tune 0 5", -1).channels(4);
        // BLOCKED ones and those of another's, too.
        Run.on(TWO).due("tune 0 3", 0).due("tune 0 20", 3).channels(20, 20);
    }

    @Says("0: none:")
    static void p06_tuneToZeroIsNone() {
        Run.on(TWO).due("count 6", 1).due("tune 1 0", 20).channels(0, 0).due("count 6", 0).due("user 1 5", 0);
    }

    @Says("what it had (0: none);")
    static void p06_tuneAnswersWhatItHad() {
        Run.on(TWO).due("tune 0 0", 0).due("tune 0 7", 0).due("tune 0 7", 7).due("tune 0 0", 7).due("tune 0 0", 0)
                .due("tune 1 1", 20).due("tune 1 20", 1);
    }

    @Says("NONE: no such ones.")
    static void p06_tuneOfNoSuchUserOrChannelIsNone() {
        Run.on(TWO).refused(-1, "tune # 1", -1, 2, 3, 6, Run.BIG, Run.SMALL).refused(-1, "tune # 0", -1, 2, Run.BIG)
                .refused(-1, "tune 0 #", -1, 21, 60, 61, Run.BIG, Run.SMALL);
        Run.fresh().refused(-1, "tune # 1", 0, -1, 1, 5).due("tune 0 0", -1);
    }

    // ---- promise 7

    @Says("A CHANNEL is BLOCKED, if it wasn't, else not any more (told ones, too):")
    static void p07_blockTurnsAChannelToAndFro() {
        Run.on(TWO).due("block 1", 1).due("blocked 1", 1).due("block 1", 0).due("blocked 1", 0).due("block 1", 1)
                .due("block 3", 0).due("blocked 3", 0).due("blocked 4", 1).due("blocked 2", 0).due("count 5", 2);
        Run.on("band 60;").due("block 60", 1).due("blocked 60", 1).due("blocked 59", 0).due("blocked 28", 0)
                .due("block 32", 1).due("blocked 32", 1).due("blocked 1", 0).due("count 5", 2).due("block 60", 0)
                .due("count 5", 1).due("block 1", 1).due("blocked 33", 0);
    }

    @Says("whether it is then (1, 0);")
    static void p07_blockAnswersWhetherItIsThen() {
        Run.on(TWO).due("block 3", 0).due("block 3", 1).due("block 20", 1).due("block 20", 0);
        Run.fresh().due("block 30", 1).due("block 30", 0);
    }

    @Says("NONE: no such one.")
    static void p07_blockOfNoSuchChannelIsNone() {
        Run.on(TWO).refused(-1, "block #", 0, -1, 21, 60, 61, 64, 65, 67, Run.BIG, Run.SMALL);
        Run.on("band 60;").refused(-1, "block #", 0, 61, 63, 64, -1);
        Run.fresh().refused(-1, "block #", 0, 31);
    }

    // ---- promise 8

    @Says("POWER of a USER becomes 0 .. 30:")
    static void p08_powerBecomesZeroToThirty() {
        Run.on(TWO).due("power 0 0", 10).due("user 0 1", 0).due("power 0 30", 0).due("user 0 1", 30)
                .due("user 1 1", 20);
    }

    @Says("what it was;")
    static void p08_powerAnswersWhatItWas() {
        Run.on(TWO).due("power 0 10", 10).due("power 1 0", 20).due("power 1 30", 0).due("power 1 1", 30);
    }

    @Says("NONE: no such ones.")
    static void p08_powerOfNoSuchUserOrPowerIsNone() {
        Run.on(TWO).refused(-1, "power # 1", -1, 2, 3, 6, Run.BIG, Run.SMALL)
                .refused(-1, "power 0 #", -1, 31, Run.BIG, Run.SMALL);
        Run.fresh().refused(-1, "power # 1", 0, -1, 5);
    }

    // ---- promise 9

    @Says("SLOTS of a USER become 1 .. 255:")
    static void p09_slotsBecomeOneToTwoHundredFiftyFive() {
        Run.on(TWO).due("slots 0 1", 255).due("user 0 6", 1).due("slots 0 255", 1).due("user 0 6", 255)
                .due("slots 0 128", 255).due("user 0 6", 128).due("user 1 6", 255);
    }

    @Says("what they were;")
    static void p09_slotsAnswersWhatTheyWere() {
        Run.on(TWO + "slots b 7;").due("slots 1 8", 7).due("slots 1 8", 8).due("slots 0 3", 255);
    }

    @Says("NONE: no such ones.")
    static void p09_slotsOfNoSuchUserOrSlotsAreNone() {
        Run.on(TWO).refused(-1, "slots # 1", -1, 2, 3, 6, Run.BIG, Run.SMALL)
                .refused(-1, "slots 0 #", 0, -1, 256, 257, 511, Run.BIG, Run.SMALL);
        Run.fresh().refused(-1, "slots # 1", 0, -1, 5);
    }

    // ---- promise 10

    @Says("SEARCH for all that have none:")
    static void p10_completeIsForAllThatHaveNone() {
        Run.on(PAIR).due("complete", 3).channels(1, 2);
        Run.on(PAIR).due("tune 0 2", 0).due("complete", 1).channels(2, 1);
        Run.on(PAIR).due("tune 1 1", 0).due("complete", 2).channels(2, 1);
        Run.on(PAIR + "fixed a 9;fixed b 8;").idle("complete", 0);
    }

    @Says("what it finds is so from now on:")
    static void p10_whatCompleteFindsStays() {
        Run.on(PAIR).due("complete", 3).due("count 6", 2).due("clean", 1).due("planned 0", -2).due("keep", 2);
    }

    @Says("how many LOOKS;")
    static void p10_completeAnswersItsLooks() {
        // b passes over a's, a over the BLOCKED ones.
        Run.on(PAIR).due("block 1", 1).due("block 2", 1).due("complete", 7).channels(3, 4);
        Run.on("band 10;orders 0;user a 0 0 7 7;").due("complete", 1);
        Run.on(LONG).due("complete", 600).channels(37, 21, 1, 21, 1);
    }

    @Says("-2: it finds nothing;")
    static void p10_completeThatFindsNothing() {
        Run.on("orders 0;user a 0 0 1 1;user b 0 0 1 1;").idle("complete", -2);
        Run.on("orders 0;user a 0 0 1 1;block 1 1;").idle("complete", -2);
        // None to do, but not CLEAN.
        Run.on("orders 0;user a 0 0 1 1;fixed a 2;").idle("complete", -2);
        // b could have any, but a is wrong as it is.
        Run.on("orders 0;user a 0 0 1 1;user b 0 0 1 9;fixed a 2;").idle("complete", -2);
    }

    @Says("-3: it GIVES UP")
    static void p10_completeThatGivesUp() {
        Run.on(TOO_LONG).idle("complete", -3).idle("complete", -3);
        Run.on(TOO_LONG).due("tune 0 37", 0).due("complete", 585).channels(37, 21, 1, 21, 1, 60);
    }

    @Says("(nothing changes by these, nor by no LOOKS).")
    static void p10_nothingChangesByACompleteThatFindsNothingOrLooksAtNone() {
        Run.fresh().idle("complete", 0).due("undo", -1);
        Run.on(PAIR).due("tune 0 1", 0).due("tune 1 2", 0).idle("complete", 0).due("count 7", 2).due("undo", 1)
                .channels(1, 0);
        Run.on("orders 0;user a 0 0 1 1;user b 0 0 1 1;").due("tune 0 0", 0).idle("complete", -2).due("count 7", 1);
        Run.on(TOO_LONG).due("power 0 1", 0).idle("complete", -3).due("count 7", 1).due("undo", 0);
    }

    // ---- promise 11

    @Says("MEND: what it finds is so from now on:")
    static void p11_whatMendFindsStays() {
        Run.on(PAIR + "fixed a 5;fixed b 5;").due("mend", 1).channels(1, 5).due("clean", 1).due("mended", 0)
                .due("mend", 0).channels(1, 5).due("count 7", 1);
    }

    @Says("the set, as bits")
    static void p11_mendAnswersTheSetAsBits() {
        // Each is wrong by itself: below LOW.
        String six = "orders 0;user a 0 0 2 9;user b 0 0 2 9;user c 0 0 2 9;user d 0 0 2 9;user e 0 0 2 9;user f 0 0 2 9;";
        String[] names = {"a", "b", "c", "d", "e", "f"};
        StringBuilder all = new StringBuilder(six);
        for (int user = 0; user < 6; user++) {
            Run.on(six + "fixed " + names[user] + " 1;").due("mend", 1 << user).due("user " + user + " 4", 2);
            all.append("fixed ").append(names[user]).append(" 1;");
        }
        Run.on(all.toString()).due("mend", 63).channels(2, 3, 4, 5, 6, 7);
        Run.on(six + "fixed a 1;fixed c 1;fixed f 1;").due("mend", 37).channels(2, 0, 3, 0, 0, 4);
    }

    @Says("(0: all was CLEAN: nothing to undo by that);")
    static void p11_mendOfWhatIsCleanChangesNothing() {
        Run.fresh().idle("mend", 0).due("undo", -1);
        Run.on(PAIR).idle("mend", 0).channels(0, 0);
        Run.on(PAIR + "fixed a 5;").due("tune 1 6", 0).idle("mend", 0).due("count 7", 1).due("undo", 0).channels(5, 0);
    }

    @Says("-2: none does (nothing changes).")
    static void p11_mendThatFindsNoneChangesNothing() {
        Run.on("orders 0;user a 0 0 1 4;block 1 4;fixed a 5;").idle("mend", -2);
        Run.on("orders 0;user a 0 0 1 1;user b 0 0 1 1;fixed a 1;fixed b 1;").due("power 0 1", 0).idle("mend", -2)
                .channels(1, 1).due("undo", 0);
    }

    // ---- promise 12

    @Says("Of a USER, what 0 SITE,")
    static void p12_userSite() {
        Run.on("user a 0 1 2 3;user b 2 1 2 3;user c 1 1 2 3;").due("user 0 0", 0).due("user 1 0", 2)
                .due("user 2 0", 1);
    }

    @Says("1 POWER,")
    static void p12_userPower() {
        Run.on(TWO).due("user 0 1", 10).due("user 1 1", 20).due("power 1 0", 20).due("user 1 1", 0).due("user 0 1", 10);
    }

    @Says("2 LOW,")
    static void p12_userLow() {
        Run.on("band 60;user a 0 0 1 60;user b 0 0 60 60;").due("user 0 2", 1).due("user 1 2", 60);
    }

    @Says("3 HIGH,")
    static void p12_userHigh() {
        Run.on("band 60;user a 0 0 1 1;user b 0 0 1 60;").due("user 0 3", 1).due("user 1 3", 60);
    }

    @Says("4 its CHANNEL (0: none),")
    static void p12_userChannel() {
        Run.on(TWO).due("user 0 4", 0).due("user 1 4", 20).due("tune 0 1", 0).due("user 0 4", 1);
    }

    @Says("5 whether it is RIGHT (1, 0; 0 without a CHANNEL),")
    static void p12_userRight() {
        Run.on(TWO).due("user 0 5", 0).due("user 1 5", 1).due("tune 0 1", 0).due("user 0 5", 0).due("tune 0 2", 1)
                .due("user 0 5", 1).due("tune 0 9", 2).due("user 0 5", 1).due("tune 0 10", 9).due("user 0 5", 0)
                .due("tune 0 3", 10).due("user 0 5", 0).due("block 3", 0).due("user 0 5", 1).due("block 20", 1)
                .due("user 1 5", 0).due("tune 1 0", 20).due("user 1 5", 0);
        Run.on("user a 0 0 1 30;").due("user 0 5", 0);
    }

    @Says("6 SLOTS.")
    static void p12_userSlots() {
        Run.on(TWO + "slots b 1;").due("user 0 6", 255).due("user 1 6", 1).due("slots 0 9", 255).due("user 0 6", 9);
    }

    @Says("IndexOutOfBoundsException: no such USER.")
    static void p12_noSuchUserThrowsIndexOutOfBounds() {
        Run.on(TWO).thrown("IndexOutOfBoundsException", "user -1 0", "user 2 0", "user 5 0", "user 6 0", "user 8 0",
                "user MAX 0", "user MIN 0", "user -1 6", "user 2 6");
        Run.fresh().thrown("IndexOutOfBoundsException", "user 0 0");
        Run.on(TWO).tell("user a 0 0 1 1;", 1).due("user 0 0", 0).thrown("IndexOutOfBoundsException", "user 1 0");
    }

    @Says("NoSuchElementException: no such what.")
    static void p12_noSuchWhatThrowsNoSuchElement() {
        Run.on(TWO).thrown("NoSuchElementException", "user 0 -1", "user 0 7", "user 1 8", "user 1 MAX", "user 1 MIN")
                .due("user 1 0", 0).due("user 1 6", 255);
    }

    // ---- promise 13

    @Says("Whether a CHANNEL 1 .. BAND is BLOCKED (1, 0);")
    static void p13_blockedOfOneToBand() {
        Run.on("band 60;block 1 1;block 60 60;block 31 33;").due("blocked 1", 1).due("blocked 2", 0)
                .due("blocked 30", 0)
                .due("blocked 31", 1).due("blocked 32", 1).due("blocked 33", 1).due("blocked 34", 0)
                .due("blocked 59", 0)
                .due("blocked 60", 1);
        Run.on("band 4;").due("blocked 4", 0).due("block 4", 1).due("blocked 4", 1);
    }

    @Says("NONE: no such one.")
    static void p13_blockedOfNoSuchChannelIsNone() {
        Run.on("band 4;block 1 4;").refused(-1, "blocked #", 0, 5, -1, 60, 61, 65, Run.BIG, Run.SMALL);
        Run.on("band 60;block 1 60;").refused(-1, "blocked #", 0, 61, 63, 64, -1, -64);
    }

    // ---- promise 41

    @Says("LOSS of the link of two SITES 0 .. 2;")
    static void p41_linkedAnswersTheLossBothWays() {
        Run.on("link 0 1 0;link 2 1 99;").due("linked 0 1", 0).due("linked 1 0", 0).due("linked 1 2", 99)
                .due("linked 2 1", 99);
        Run.on("link 2 0 7;").due("linked 0 2", 7).due("linked 2 0", 7);
    }

    @Says("-2: there is none;")
    static void p41_linkedWithoutALink() {
        Run.on("link 0 1 0;").due("linked 0 2", -2).due("linked 2 0", -2).due("linked 1 2", -2).due("linked 2 1", -2);
        Run.fresh().due("linked 0 1", -2);
    }

    @Says("NONE: no such ones,")
    static void p41_linkedOfNoSuchSitesIsNone() {
        Run.on("link 0 1 0;link 0 2 0;link 1 2 0;").refused(-1, "linked # 0", -1, 3, Run.BIG, Run.SMALL)
                .refused(-1, "linked 0 #", -1, 3, Run.BIG, Run.SMALL)
                .refused(-1, "linked # #", 3, -1, Run.BIG, Run.SMALL);
    }

    @Says("not unlike.")
    static void p41_linkedOfOneSiteWithItselfIsNone() {
        Run.on("link 0 1 0;link 0 2 0;link 1 2 0;").refused(-1, "linked # #", 0, 1, 2);
        Run.fresh().refused(-1, "linked # #", 0, 1, 2);
    }

    // ---- promise 45

    @Says("The latest is undone:")
    static void p45_undoTakesTheLatestBack() {
        Run.on(TWO).due("tune 0 5", 0).due("tune 1 6", 20).due("undo", 1).channels(5, 20).due("undo", 0)
                .channels(0, 20);
        // What was found by a SEARCH, and what BLOCKED and POWERS were ahead of it.
        Run.on(PAIR).due("block 1", 1).due("complete", 5).channels(2, 3).due("block 1", 0).due("undo", 2).channels(2, 3)
                .due("blocked 1", 1).due("undo", 1).channels(0, 0).due("blocked 1", 1).due("undo", 0)
                .due("blocked 1", 0);
        Run.on(PAIR + "fixed a 5;fixed b 5;").due("power 0 9", 0).due("mend", 1).due("undo", 1).channels(5, 5)
                .due("user 0 1", 9).due("undo", 0).due("user 0 1", 0);
    }

    @Says("how many are left;")
    static void p45_undoAnswersHowManyAreLeft() {
        Run.on(TWO).due("tune 0 1", 0).due("tune 0 2", 1).due("tune 0 3", 2).due("undo", 2).due("count 7", 2)
                .due("undo", 1)
                .due("tune 0 4", 1).due("undo", 1).due("undo", 0).due("count 7", 0);
    }

    @Says("NONE: none.")
    static void p45_undoOfNothingIsNone() {
        Run.fresh().idle("undo", -1);
        Run.on(TWO).idle("undo", -1).due("tune 0 1", 0).due("undo", 0).idle("undo", -1).channels(0, 20);
        // Neither bytes that come nor an IMAGE that is kept are undone, nor is an undo.
        Run.on(TWO).due("feed 0 0 0 0 0", 20).due("keep", 1).idle("undo", -1);
    }

    // ---- promise 46

    @Says("An IMAGE is kept (in place of one ahead):")
    static void p46_keepTakesThePlaceOfTheImageAhead() {
        Run.on(TWO).due("keep", 1).due("tune 0 5", 0).due("keep", 2).due("tune 0 6", 5).due("back", 2).channels(5, 20)
                .due("tune 0 0", 5).due("keep", 1).due("back", 1).channels(0, 20);
        // Keeping changes nothing that can be undone.
        Run.on(TWO).due("tune 0 5", 0).idle("keep", 2).due("undo", 0).channels(0, 20).due("back", 2).channels(5, 20);
    }

    @Says("how many USERS have a CHANNEL.")
    static void p46_keepAnswersHowManyHaveAChannel() {
        Run.fresh().due("keep", 0);
        Run.on(TWO).due("keep", 1).due("tune 0 1", 0).due("keep", 2).due("tune 1 0", 20).due("keep", 1)
                .due("tune 0 0", 1)
                .due("keep", 0);
        Run.on("user a 0 0 1 1;user b 0 0 1 1;user c 0 0 1 1;user d 0 0 1 1;user e 0 0 1 1;user f 0 0 1 1;"
                + "fixed a 1;fixed b 1;fixed c 1;fixed d 1;fixed e 1;fixed f 1;").due("keep", 6);
    }

    // ---- promise 47

    @Says("All is as in the IMAGE")
    static void p47_backMakesAllAsInTheImage() {
        Run run = Run.on(TWO).due("tune 0 5", 0).due("power 0 1", 10).due("slots 1 2", 255).due("block 9", 1)
                .due("keep", 2);
        run.due("tune 0 6", 5).due("tune 1 0", 20).due("power 0 2", 1).due("power 1 2", 20).due("slots 1 3", 2)
                .due("slots 0 3", 255).due("block 9", 0).due("block 3", 0).due("block 10", 1);
        run.due("back", 2).channels(5, 20).due("user 0 1", 1).due("user 1 1", 20).due("user 0 6", 255)
                .due("user 1 6", 2)
                .due("blocked 9", 1).due("blocked 3", 1).due("blocked 10", 0).due("count 5", 3);
        // What was found since is gone as well.
        Run.on(PAIR).due("keep", 0).due("complete", 3).channels(1, 2).due("back", 0).channels(0, 0);
        Run.on(PAIR + "fixed a 5;fixed b 5;").due("keep", 2).due("mend", 1).channels(1, 5).due("back", 2).channels(5, 5);
    }

    @Says("(nothing to undo then; it stays):")
    static void p47_behindBackThereIsNothingToUndoAndTheImageStays() {
        Run.on(TWO).due("tune 0 5", 0).due("keep", 2).due("tune 0 6", 5).due("back", 2).due("count 7", 0)
                .due("undo", -1)
                .channels(5, 20).due("tune 0 7", 5).due("count 7", 1).due("undo", 0).channels(5, 20).due("tune 0 8", 5)
                .due("back", 2).channels(5, 20).due("count 7", 0).due("tune 1 1", 20).due("back", 2).channels(5, 20);
    }

    @Says("how many have one;")
    static void p47_backAnswersHowManyHaveOne() {
        Run.on(TWO).due("keep", 1).due("tune 0 5", 0).due("back", 1).due("tune 0 5", 0).due("keep", 2)
                .due("tune 0 0", 5)
                .due("tune 1 0", 20).due("back", 2);
        Run.fresh().due("keep", 0).due("back", 0);
    }

    @Says("NONE: there is none.")
    static void p47_backWithoutAnImageIsNone() {
        Run.fresh().idle("back", -1);
        Run.on(TWO).due("tune 0 5", 0).idle("back", -1).due("count 7", 1).channels(5, 20);
        Run.on(TWO).due("keep", 1).tell(TWO, 5).due("tune 0 5", 0).idle("back", -1);
    }

    // ---- promise 48

    @Says("0 USERS,")
    static void p48_countUsers() {
        Run.fresh().due("count 0", 0);
        Run.on(TWO).due("count 0", 2).tell("user a 0 0 1 1;", 1).due("count 0", 1);
    }

    @Says("1 BAND,")
    static void p48_countBand() {
        Run.fresh().due("count 1", 30).tell("band 4;", 1).due("count 1", 4).tell("band 60;", 1).due("count 1", 60);
    }

    @Says("2 guard,")
    static void p48_countGuard() {
        Run.fresh().due("count 2", 0).tell("guard 5;", 1).due("count 2", 5);
    }

    @Says("3 space,")
    static void p48_countSpace() {
        Run.fresh().due("count 3", 1).tell("space 20;", 1).due("count 3", 20);
    }

    @Says("4 orders,")
    static void p48_countOrders() {
        Run.fresh().due("count 4", 2).tell("orders 0;", 1).due("count 4", 0).tell("orders 7;", 1).due("count 4", 7);
    }

    @Says("5 CHANNELS that are BLOCKED,")
    static void p48_countBlocked() {
        Run.on("band 60;block 1 60;").due("count 5", 60).due("block 60", 0).due("count 5", 59).due("undo", 0)
                .due("count 5", 60);
        Run.on("block 2 5;block 4 6;").due("count 5", 5).due("block 7", 1).due("count 5", 6);
    }

    @Says("6 USERS with a CHANNEL,")
    static void p48_countTuned() {
        Run.on(TWO).due("count 6", 1).due("tune 0 1", 0).due("count 6", 2).due("tune 0 0", 1).due("tune 1 0", 20)
                .due("count 6", 0);
    }

    @Says("7 what can be undone,")
    static void p48_countUndo() {
        Run.on(TWO).due("count 7", 0).due("tune 0 1", 0).due("count 7", 1).due("keep", 2).due("count 7", 1)
                .due("feed 0 0 0 0 0", 20).due("count 7", 1).due("undo", 0).due("count 7", 0);
    }

    @Says("8 bytes of the TAPE.")
    static void p48_countBytes() {
        Run.fresh().due("count 8", 0).due("feed 0 0 0 0 0", 20).due("count 8", 20).due("feed 0 0 0 0 0", 40)
                .due("count 8", 40).due("text 41", -2).due("count 8", 40).due("text 40", -1).due("count 8", 0);
    }

    @Says("NONE for another what.")
    static void p48_anotherWhatIsNone() {
        Run.on(TWO).refused(-1, "count #", -1, 9, 10, Run.BIG, Run.SMALL);
    }
}
