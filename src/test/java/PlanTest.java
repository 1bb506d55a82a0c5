/** Promises 19 to 27, 29, 32 to 34, 38, 39 and 42 to 44: what fits, plans, bands, rows, turned powers, chance. */
public final class PlanTest {
    private static final Due DUE = new Due("PlanTest");
    /** a and b are c's 10, c less a is b's 6, c less b is a's 4; LEVEL 1 each. */
    private static final String SECOND = "orders 1;user a 0 3 1 30;user b 0 3 1 30;user c 0 3 1 30;"
            + "fixed a 4;fixed b 6;fixed c 10;";
    private static final int BIG = Integer.MAX_VALUE;
    private static final int SMALL = Integer.MIN_VALUE;

    public static void main(String[] args) {
        clean();
        fits();
        quietest();
        planned();
        mended();
        leastBand();
        grown();
        ifTuned();
        turned();
        bestSwap();
        spare();
        mostPowerAndGuard();
        chance();
        chanceOfTwo();
        wrongInputs();
        DUE.end();
    }

    private static void clean() {
        DUE.same("clean by hits", Due.told(SECOND).clean(), 0);
        String text = "orders 0;user a 0 0 2 9;user b 0 0 1 9;";
        DUE.same("no channels", Due.told(text).clean(), 1);
        DUE.same("below low", Due.told(text + "fixed a 1;").clean(), 0);
        DUE.same("above high", Due.told(text + "fixed a 10;").clean(), 0);
        DUE.same("blocked", Due.told(text + "fixed a 5;block 5 5;").clean(), 0);
        DUE.same("right", Due.told(text + "fixed a 5;block 6 6;fixed b 9;").clean(), 1);
        DUE.same("crowded", Due.told(text + "fixed a 5;fixed b 5;").clean(), 0);
    }

    private static void fits() {
        // Beside a's 4 and b's 6, whose sum and difference are 10 and 2, c can have all but these and 4 and 6: c less a
        // is 6 for 10 alone, c less b 4 for 10 alone, a and c 6 for 2 alone, b less c 4 for 2 alone.
        QuietChannels x = Due.told(SECOND);
        int[] some = new int[12];
        for (int channel = 1; channel <= 12; channel++) {
            some[channel - 1] = x.fits(2, channel);
        }
        DUE.row("fits(2, ..)", some, 1, 0, 1, 0, 1, 0, 1, 1, 1, 0, 1, 1);
        DUE.same("free(2)", x.free(2), 26);
        int[] at = new int[6];
        for (int k = 0; k < 6; k++) {
            at[k] = x.freeAt(2, k);
        }
        DUE.row("freeAt(2, ..)", at, 1, 3, 5, 7, 8, 9);
        DUE.same("freeAt(2, 25)", x.freeAt(2, 25), 30);
        DUE.same("freeAt(2, 26)", x.freeAt(2, 26), -2);
        DUE.same("freeAt(2, MAX)", x.freeAt(2, BIG), -2);
        DUE.same("nothing is tuned by asking", x.user(2, 4), 10);
        x.block(1);
        DUE.same("a blocked one", x.fits(2, 1), 0);
        DUE.same("free(2)", x.free(2), 25);
        // Where the others aren't clean by themselves, nothing fits.
        x = Due.told("orders 0;user a 0 0 1 1;user b 1 0 5 6;fixed a 2;");
        DUE.same("fits", x.fits(1, 5), 0);
        DUE.same("free", x.free(1), 0);
        DUE.same("freeAt", x.freeAt(1, 0), -2);
        x.tune(0, 0);
        DUE.same("only its stretch", x.free(1), 2);
        DUE.same("below it", x.fits(1, 4), 0);
        DUE.same("above it", x.fits(1, 7), 0);
        DUE.same("freeAt(1, 1)", x.freeAt(1, 1), 6);
    }

    private static void quietest() {
        DUE.same("the least of those without hits", Due.told(SECOND).quietest(2), 1);
        String text = "orders 1;space 2;user a 0 3 1 30;user b 0 3 1 30;user c 0 3 3 6;fixed a 4;fixed b 6;";
        // c 3: crowds with a; 4: on a's, no product hits; 5 crowds with both; 6: crowds with b.
        QuietChannels x = Due.told(text);
        DUE.row("ifTuned(2, ..)", new int[] {x.ifTuned(2, 3), x.ifTuned(2, 4), x.ifTuned(2, 5), x.ifTuned(2, 6)},
                1, 1, 2, 1);
        DUE.same("quietest", x.quietest(2), 3);
        x.block(3);
        DUE.same("quietest", x.quietest(2), 4);
        x.block(4);
        x.block(6);
        DUE.same("quietest of one", x.quietest(2), 5);
        x.block(5);
        DUE.same("all are blocked", x.quietest(2), -2);
        // a 1: 1 and 6 are 7; a 2 .. 5 hit: 4 and 6 are 10, and so on; the last of the stretch is best.
        x = Due.told("orders 1;user a 0 3 4 5;user b 0 3 1 30;user c 0 3 1 30;fixed b 6;fixed c 10;");
        DUE.row("ifTuned(0, ..)", new int[] {x.ifTuned(0, 4), x.ifTuned(0, 5)}, 3, 0);
        DUE.same("the last of the stretch", x.quietest(0), 5);
        x = Due.told("orders 1;user a 0 3 16 18;user b 0 3 1 30;user c 0 3 1 30;fixed b 6;fixed c 10;block 18 18;");
        DUE.same("16 is hit, 17 isn't", x.quietest(0), 17);
        x = Due.told(SECOND + "block 1 1;");
        DUE.same("quietest of a, behind the blocked one", x.quietest(0), 2);
    }

    private static void planned() {
        QuietChannels x = Due.told("orders 0;user a 0 0 1 2;user b 0 0 1 1;user c 0 0 1 30;fixed c 3;");
        DUE.row("planned", new int[] {x.planned(0), x.planned(1), x.planned(2)}, 2, 1, -2);
        DUE.same("nothing changes", x.count(6), 1);
        x.tune(1, 1);
        DUE.row("planned beside channel 1", new int[] {x.planned(0), x.planned(1)}, 2, -2);
        x.tune(1, 0);
        x.tune(2, 2);
        DUE.row("planned", new int[] {x.planned(0), x.planned(1), x.planned(2)}, -2, -2, -2);
    }

    private static void mended() {
        DUE.same("one change is enough", Due.told(SECOND).mended(), 1);
        DUE.same("clean", Due.told("user a 0 0 1 1;").mended(), 0);
        // Those that GIVE UP find nothing: see ChangeTest for the 900 LOOKS; all three sit wrong.
        QuietChannels x = Due.told("band 60;orders 0;space 20;user a 0 0 1 3;user b 1 0 1 23;user c 1 0 8 19;"
                + "fixed a 60;fixed b 60;fixed c 60;");
        DUE.same("none does", x.mended(), -2);
    }

    private static void leastBand() {
        DUE.same("no users", new QuietChannels().leastBand(), 4);
        DUE.same("one user", Due.told("user a 0 0 1 1;").leastBand(), 4);
        DUE.same("LOW decides", Due.told("user a 0 0 17 30;fixed a 30;").leastBand(), 17);
        DUE.same("blocked ones count", Due.told("user a 0 0 17 30;block 17 20;").leastBand(), 21);
        DUE.same("60", Due.told("band 60;user a 0 0 60 60;").leastBand(), 60);
        DUE.same("60, behind blocked ones", Due.told("band 60;user b 0 0 1 2;user a 0 0 9 60;block 9 59;").leastBand(), 60);
        DUE.same("all blocked", Due.told("user a 0 0 17 20;block 17 20;").leastBand(), -2);
        // No two differences alike: the shortest ruler of five marks is 11 long.
        String five = "user a 0 9 1 30;user b 0 9 1 30;user c 0 9 1 30;user d 0 9 1 30;user e 0 9 1 30;";
        DUE.same("five users", Due.told(five).leastBand(), 12);
        DUE.same("five users that aren't heard", Due.told("loss 99 99 99;" + five).leastBand(), 5);
        DUE.same("space", Due.told("orders 0;space 9;user a 0 0 1 30;user b 0 0 1 30;user c 0 0 1 30;").leastBand(), 19);
        QuietChannels x = Due.told("user a 0 0 1 3;user b 0 0 1 3;");
        x.block(1);
        x.block(2);
        DUE.same("blocked by call", x.leastBand(), -2);
        // 2 and 3 make 5, next to c's 4 by guard; with BAND 4 that is no product.
        String edge = "orders 1;guard 1;user a 0 9 2 2;user b 0 9 3 3;user c 1 9 4 4;link 0 1 0;";
        DUE.same("a product beyond the band is none", Due.told(edge + "block 9 9;").leastBand(), 4);
    }

    private static void grown() {
        int[] row = new int[9];
        for (int i = 0; i < 9; i++) {
            row[i] = new QuietChannels().grown(0, 5, 20, i);
        }
        DUE.row("space alone", row, 1, 21, 41, -2, -2, -2, -2, -2, -2);
        // Sums and differences of two, no guard: 1, 2 (1 and 1 don't count: of unlike ones), 4 (3 is 1 and 2), 7 (5 and 6
        // are sums), 10 (8, 9 are sums; 10: 10-1 = 9, 10-2 = 8, 10-4 = 6, 10-7 = 3), 13, 16, 19.
        for (int i = 0; i < 9; i++) {
            row[i] = Due.told(SECOND).grown(1, 0, 1, i);
        }
        DUE.row("orders 1", row, 1, 2, 4, 7, 10, 13, 16, 19, -2);
        QuietChannels x = Due.told("band 9;guard 5;space 20;orders 4;loss 99 99 99;user a 1 0 9 9;user b 2 0 9 9;"
                + "fixed b 9;slots a 1;slots b 2;block 1 9;seed 9;");
        for (int i = 0; i < 9; i++) {
            row[i] = x.grown(1, 0, 1, i);
        }
        DUE.row("whatever the text tells", row, 1, 2, 4, 7, 10, 13, 16, 19, -2);
        DUE.same("guard: 9 is 6 from 3 and 8 from 1", x.grown(1, 5, 1, 2), 9);
        DUE.same("all orders", x.grown(7, 0, 1, 3), 12);
        DUE.row("up to 60", new int[] {x.grown(1, 1, 10, 4), x.grown(1, 1, 10, 5), x.grown(1, 1, 10, 6)}, 47, 60, -2);
        x = Due.told(SECOND);
        DUE.same("no orders, no space", x.grown(0, 0, 1, 7), 8);
        DUE.same("a ninth", x.grown(0, 0, 1, 8), -2);
        DUE.same("grown(MAX)", x.grown(0, 0, 1, BIG), -2);
        int[][] wrong = {{-1, 0, 1, 0}, {8, 0, 1, 0}, {0, -1, 1, 0}, {0, 6, 1, 0}, {0, 0, 0, 0}, {0, 0, 21, 0},
            {0, 0, 1, -1}, {0, 0, 1, SMALL}, {8, 0, 1, 9}, {BIG, BIG, BIG, BIG}};
        for (int[] w : wrong) {
            DUE.same("grown", x.grown(w[0], w[1], w[2], w[3]), -1);
        }
        DUE.same("the object is as it was", x.user(2, 4), 10);
        DUE.same("and so are its products", x.products(0), 6);
    }

    private static void ifTuned() {
        QuietChannels x = Due.told(SECOND);
        DUE.same("as it is", x.ifTuned(2, 10), 3);
        DUE.same("none", x.ifTuned(2, 0), 0);
        DUE.same("2 is hit and makes two", x.ifTuned(2, 2), 3);
        DUE.same("on a's: a couple that crowds, and no hit", x.ifTuned(2, 4), 1);
        DUE.same("nothing changes", x.user(2, 4), 10);
        DUE.same("count(7)", x.count(7), 0);
    }

    private static void turned() {
        // All make two HITS, a is the first: 3 to 1, then a's two aren't heard; b and c make one: b 3 to 2, 1.
        QuietChannels x = Due.told(SECOND);
        DUE.same("steps", x.turned(-1), 4);
        DUE.row("turned", new int[] {x.turned(0), x.turned(1), x.turned(2)}, 1, 1, 3);
        DUE.same("left", x.left(), 0);
        DUE.same("nothing changes", x.user(0, 1), 3);
        DUE.same("left, asked first", Due.told("loss 6 0 0;" + SECOND).left(), 0);
        DUE.same("turned, asked first", Due.told("loss 6 0 0;" + SECOND).turned(0), 2);
        // Without LOSS hits stay, as the worst one has no POWER left.
        x = Due.told("loss 0 0 0;" + SECOND);
        DUE.same("steps", x.turned(-1), 3);
        DUE.row("turned", new int[] {x.turned(0), x.turned(1), x.turned(2)}, 0, 3, 3);
        DUE.same("left", x.left(), 3);
        DUE.same("left, asked first", Due.told("loss 0 0 0;" + SECOND).left(), 3);
        DUE.same("turned(3)", x.turned(3), -2);
        DUE.same("turned(-2)", x.turned(-2), -2);
        DUE.same("turned(MIN)", x.turned(SMALL), -2);
        DUE.same("turned(MAX)", x.turned(BIG), -2);
    }

    private static void bestSwap() {
        DUE.same("of one site nothing is won", Due.told(SECOND).bestSwap(), -2);
        // With d's 29 for any of the three no sum or difference is left on another's.
        String text = "orders 1;user a 0 3 1 30;user b 0 3 1 30;user c 0 3 1 30;user d 1 0 1 30;"
                + "fixed a 4;fixed b 6;fixed c 10;fixed d 29;";
        QuietChannels x = Due.told(text);
        DUE.same("a with d", x.bestSwap(), 3);
        DUE.same("as it was", x.products(2), 3);
        x.tune(3, 0);
        DUE.same("d has no channel", x.bestSwap(), -2);
        x = Due.told(text);
        x.tune(3, 16);
        // a on 16 is hit by b and c, 6 and 10; b on 16 makes none with 4 and 10: 6 times 1, and 3.
        DUE.same("b with d", x.bestSwap(), 9);
        // Twice b less a is 1, which hits c of the other site; with a's 3 for c's 1 twice b less a hits again, with b's 2
        // it is none.
        x = Due.told("user a 0 9 1 30;user b 0 9 1 30;user c 1 9 1 30;link 0 1 0;fixed a 3;fixed b 2;fixed c 1;");
        DUE.same("hits", x.products(2), 1);
        DUE.same("b with c", x.bestSwap(), 8);
        x = Due.told("user c 1 9 1 30;user a 0 9 1 30;user b 0 9 1 30;link 0 1 0;fixed a 3;fixed b 2;fixed c 1;");
        DUE.same("c with b", x.bestSwap(), 2);
        x = Due.told("user c 1 9 1 30;user b 0 9 1 30;user a 0 9 1 30;link 0 1 0;fixed a 3;fixed b 2;fixed c 1;");
        DUE.same("c with b", x.bestSwap(), 1);
    }

    private static void spare() {
        QuietChannels x = Due.told(SECOND);
        DUE.same("no others without a channel", x.spare(2), 26);
        x = Due.told("orders 0;user a 0 0 1 3;user b 0 0 1 2;user c 0 0 2 2;");
        // c must have 2, so b must have 1, so a must have 3.
        DUE.same("spare(0)", x.spare(0), 1);
        DUE.same("spare(1)", x.spare(1), 1);
        DUE.same("spare(2)", x.spare(2), 1);
        x.tune(0, 3);
        DUE.same("spare(1)", x.spare(1), 1);
        x.tune(0, 2);
        DUE.same("as if it had none", x.spare(0), 1);
        x.tune(0, 1);
        DUE.same("spare(1)", x.spare(1), 0);
        // A SEARCH that gives up doesn't find: 900 LOOKS without a, 300 for each CHANNEL of a, none finds.
        x = Due.told("band 60;orders 0;space 20;user a 0 0 1 3;user b 1 0 1 23;user c 1 0 8 19;user d 2 0 1 9;");
        DUE.same("spare(3)", x.spare(3), 0);
        x.tune(2, 8);
        DUE.same("spare(0): b finds nothing beside 8", x.spare(0), 0);
        x.tune(2, 1);
        DUE.same("spare(0): c isn't right", x.spare(0), 0);
    }

    private static void mostPowerAndGuard() {
        QuietChannels x = Due.told(SECOND);
        DUE.same("b and c hit a as they are", x.mostPower(0), -2);
        x.tune(0, 0);
        DUE.same("no hits at all", x.mostPower(0), 30);
        x = Due.told("orders 1;user a 0 3 1 30;user b 0 3 1 30;user c 1 3 1 30;link 0 1 4;fixed a 4;fixed b 6;fixed c 10;");
        DUE.same("5 + 3 is 1 too few", x.mostPower(0), 5);
        DUE.same("nothing changes", x.user(0, 1), 3);
        DUE.same("c's power is of no matter", x.mostPower(2), 30);
        x.power(1, 8);
        DUE.same("by 0 alone", x.mostPower(0), 0);
        x.power(1, 9);
        DUE.same("not by 0", x.mostPower(0), -2);
        x.power(0, 30);
        DUE.same("by no power of b", x.mostPower(1), -2);
        DUE.same("by no power of c", x.mostPower(2), -2);
        x.tune(2, 14);
        DUE.same("10 is 4 from 14", x.mostGuard(), 3);
        x.tune(2, 10);
        DUE.same("by none", x.mostGuard(), -2);
        x.tune(2, 11);
        DUE.same("by 0", x.mostGuard(), 0);
        x.tune(2, 30);
        DUE.same("by all", x.mostGuard(), 5);
    }

    /** The CHANNELS that are drawn, by the words of the document alone. */
    private static int[] drawn(long seed, int n, int band) {
        int[] all = new int[n];
        for (int i = 0; i < n; i++) {
            seed = (seed * 1103515245L + 12345L) & 0x7fffffffL;
            all[i] = (int) (seed / 65536 % band) + 1;
        }
        return all;
    }

    private static void chance() {
        // From 0 on the first two numbers are 12345 and 1406932606, by 65536: 0 and 21468; modulo 30 and 1: 1 and 19.
        DUE.row("drawn from 0", drawn(0, 2, 30), 1, 19);
        QuietChannels x = Due.told("orders 0;user a 0 0 1 1;user b 0 0 1 30;fixed a 1;fixed b 19;");
        DUE.same("a loses 1 and there is nothing else", x.chance(0, 1, 0), 1);
        DUE.same("one loss", x.chance(0, 1, 1), 1);
        DUE.same("clean", x.chance(0, 1, 2), 1);
        DUE.same("b loses 19 and finds 2", x.chance(0, 2, 0), 1);
        DUE.same("two losses", x.chance(0, 2, 1), 2);
        DUE.same("the text's seed is 0", x.chance(-1, 2, 1), 2);
        DUE.same("nothing changes", x.count(5), 0);
        DUE.row("channels", Due.channels(x, 2), 1, 19);
        DUE.same("nothing to undo", x.count(7), 0);
        int first = drawn(99999, 1, 30)[0];
        x = Due.told("seed 99999;orders 0;user a 0 0 1 30;fixed a " + first + ";");
        DUE.same("the text's seed", x.chance(-1, 1, 1), 1);
        first = drawn(BIG, 1, 30)[0];
        x.tune(0, first);
        DUE.same("the greatest seed", x.chance(BIG, 1, 1), 1);
        DUE.same("another channel", x.tune(0, first % 30 + 1) == first ? x.chance(BIG, 1, 1) : -9, 0);
        // A CHANNEL that is BLOCKED already is lost all the same, by each that has it.
        x = Due.told("orders 0;user a 0 0 1 30;fixed a 1;block 1 1;");
        DUE.same("losses", x.chance(0, 1, 1), 1);
        DUE.same("it has another", x.chance(0, 1, 0), 1);
        DUE.same("not clean ahead, clean then", x.clean() * 2 + x.chance(0, 1, 2), 1);
        DUE.same("no users", new QuietChannels().chance(BIG, 20, 2), 1);
        DUE.same("clean neither ahead nor then", Due.told("user a 0 0 1 1;fixed a 2;").chance(0, 1, 2), 0);
        // Drawn from 0 on: 1, then 19; what is BLOCKED stays so: a goes from 1 to 19, and from there to 20, not to 1.
        x = Due.told("orders 0;user a 0 0 1 20;fixed a 1;block 2 18;");
        DUE.same("losses", x.chance(0, 2, 1), 2);
        DUE.same("it has 20 then", x.chance(0, 2, 0), 1);
        x.block(20);
        DUE.same("it has none then", x.chance(0, 2, 0), 0);
        drawsOfTwenty();
    }

    /** A user on each CHANNEL of the band by turns: it is lost just if the CHANNEL is drawn. */
    private static void drawsOfTwenty() {
        for (int seed : new int[] {0, 1, 12345, 99999, 1 << 30, BIG}) {
            for (int n : new int[] {1, 2, 7, 20}) {
                QuietChannels x = Due.told("band 60;orders 0;user a 0 0 1 60;block 1 60;");
                int[] draws = drawn(seed, n, 60);
                for (int channel = 1; channel <= 60; channel++) {
                    x.tune(0, channel);
                    int lost = 0;
                    for (int draw : draws) {
                        lost = draw == channel ? 1 : lost;
                    }
                    DUE.same("chance on " + channel, x.chance(seed, n, 1), lost);
                }
            }
        }
    }

    private static void chanceOfTwo() {
        // a goes first: while b still sits on the BLOCKED 1, nothing fits a; then b finds 2.
        QuietChannels x = Due.told("orders 0;user a 0 0 1 30;user b 1 0 1 30;fixed a 1;fixed b 1;");
        DUE.same("losses", x.chance(0, 1, 1), 2);
        DUE.same("one has a channel then", x.chance(0, 1, 0), 1);
        DUE.same("clean", x.chance(0, 1, 2), 1);
    }

    private static void wrongInputs() {
        QuietChannels x = Due.told(SECOND);
        for (int user : new int[] {-1, 3, 6, BIG, SMALL}) {
            DUE.same("fits(" + user + ", 1)", x.fits(user, 1), -1);
            DUE.same("free(" + user + ")", x.free(user), -1);
            DUE.same("freeAt(" + user + ", 0)", x.freeAt(user, 0), -1);
            DUE.same("quietest(" + user + ")", x.quietest(user), -1);
            DUE.same("planned(" + user + ")", x.planned(user), -1);
            DUE.same("ifTuned(" + user + ", 0)", x.ifTuned(user, 0), -1);
            DUE.same("spare(" + user + ")", x.spare(user), -1);
            DUE.same("mostPower(" + user + ")", x.mostPower(user), -1);
        }
        for (int channel : new int[] {-1, 31, BIG, SMALL}) {
            DUE.same("fits(0, " + channel + ")", x.fits(0, channel), -1);
            DUE.same("ifTuned(0, " + channel + ")", x.ifTuned(0, channel), -1);
        }
        DUE.same("fits(0, 0)", x.fits(0, 0), -1);
        DUE.same("freeAt(0, -1)", x.freeAt(0, -1), -1);
        int[][] wrong = {{-2, 1, 0}, {SMALL, 1, 0}, {0, 0, 0}, {0, 21, 0}, {0, SMALL, 0}, {0, BIG, 0}, {0, 1, -1},
            {0, 1, 3}, {0, 1, BIG}};
        for (int[] w : wrong) {
            DUE.same("chance", x.chance(w[0], w[1], w[2]), -1);
        }
    }
}
