/** Promises 14 to 18, 28, 30, 31, 35 to 37 and 40: products, whom they hit, who crowds, who is worst. */
public final class ProductTest {
    private static final Due DUE = new Due("ProductTest");
    /** LEVEL 1 each; a and b are c's 10, c less a is b's 6, c less b is a's 4. */
    private static final String SECOND = "orders 1;user a 0 3 1 30;user b 0 3 1 30;user c 0 3 1 30;"
            + "fixed a 4;fixed b 6;fixed c 10;";
    private static final String FIFTH = "orders 4;band 60;user a 0 30 1 60;user b 0 30 1 60;user c 0 30 1 60;"
            + "fixed a 20;fixed b 15;fixed c 30;";
    private static final int BIG = Integer.MAX_VALUE;
    private static final int SMALL = Integer.MIN_VALUE;

    public static void main(String[] args) {
        secondOrder();
        thirdOrder();
        fifthOrder();
        bandAndOrders();
        bySites();
        levels();
        guards();
        slots();
        links();
        crowds();
        makers();
        askedFirst();
        clearances();
        nearest();
        wrongInputs();
        DUE.end();
    }

    private static int[] told(QuietChannels x, int k) {
        int[] all = new int[7];
        for (int what = 0; what < 7; what++) {
            all[what] = x.product(k, what);
        }
        return all;
    }

    private static int[] four(QuietChannels x) {
        return new int[] {x.products(0), x.products(1), x.products(2), x.products(3)};
    }

    private static void secondOrder() {
        QuietChannels x = Due.told(SECOND);
        DUE.row("products", four(x), 6, 6, 3, 0);
        DUE.row("product 0", told(x, 0), 0, 0, 1, -2, 10, 1, 4);
        DUE.row("product 1", told(x, 1), 0, 0, 2, -2, 14, 1, 0);
        DUE.row("product 2", told(x, 2), 0, 1, 2, -2, 16, 1, 0);
        DUE.row("product 3", told(x, 3), 1, 1, 0, -2, 2, 1, 0);
        DUE.row("product 4", told(x, 4), 1, 2, 0, -2, 6, 1, 2);
        DUE.row("product 5", told(x, 5), 1, 2, 1, -2, 4, 1, 1);
        DUE.same("product(6, 0)", x.product(6, 0), -1000);
        DUE.same("hitBy(2, 0)", x.hitBy(2, 0), 0);
        DUE.same("hitBy(1, 0)", x.hitBy(1, 0), 4);
        DUE.same("hitBy(0, 0)", x.hitBy(0, 0), 5);
        DUE.same("hitBy(0, 1)", x.hitBy(0, 1), -2);
        DUE.row("bySort 0", new int[] {x.bySort(0, 0), x.bySort(0, 1), x.bySort(0, 2)}, 3, 3, 1);
        DUE.row("bySort 1", new int[] {x.bySort(1, 0), x.bySort(1, 1), x.bySort(1, 2)}, 3, 3, 2);
        DUE.row("bySort 2", new int[] {x.bySort(2, 0), x.bySort(2, 1), x.bySort(2, 2)}, 0, 0, 0);
        DUE.same("clean", x.clean(), 0);
    }

    private static void thirdOrder() {
        // 3 and 9 and 4: sort 2 is 2*9-3 = 15, 2*9-4 = 14, 2*3-4 = 2, 2*4-3 = 5; sort 3 is 3+9-4 = 8, 9+4-3 = 10.
        QuietChannels x = Due.told("orders 2;user a 0 9 1 30;user b 0 8 1 30;user c 0 7 1 30;"
                + "fixed a 3;fixed b 9;fixed c 4;");
        DUE.row("products", four(x), 6, 6, 0, 0);
        DUE.row("product 0", told(x, 0), 2, 0, 2, -2, 2, 15, 0);
        DUE.row("product 1", told(x, 1), 2, 1, 0, -2, 15, 15, 0);
        DUE.row("product 2", told(x, 2), 2, 1, 2, -2, 14, 13, 0);
        DUE.row("product 3", told(x, 3), 2, 2, 0, -2, 5, 13, 0);
        DUE.row("product 4", told(x, 4), 3, 0, 1, 2, 8, 14, 0);
        DUE.row("product 5", told(x, 5), 3, 1, 2, 0, 10, 14, 0);
        DUE.same("clean", x.clean(), 1);
        // A fourth user, of a linked SITE, is hit by the last one.
        x = Due.told("user a 0 9 1 30;user b 0 8 1 30;user c 0 7 1 30;user d 1 0 1 30;link 1 0 14;"
                + "fixed a 3;fixed b 9;fixed c 4;fixed d 10;");
        DUE.same("hits(3)", x.hits(3), 1);
        DUE.same("hitBy(3, 0)", x.hitBy(3, 0), 5);
    }

    private static void fifthOrder() {
        QuietChannels x = Due.told(FIFTH);
        DUE.row("products", four(x), 8, 8, 1, 0);
        DUE.row("product 0", told(x, 0), 4, 0, 1, -2, 30, 130, 4);
        DUE.row("product 1", told(x, 1), 4, 1, 0, -2, 5, 130, 0);
        DUE.row("product 2", told(x, 2), 4, 2, 0, -2, 50, 130, 0);
        DUE.row("product 3", told(x, 3), 4, 2, 1, -2, 60, 130, 0);
        DUE.row("product 4", told(x, 4), 5, 0, 2, 1, 40, 130, 0);
        DUE.row("product 5", told(x, 5), 5, 1, 2, 0, 20, 130, 0);
        DUE.row("product 6", told(x, 6), 5, 2, 0, 1, 50, 130, 0);
        DUE.row("product 7", told(x, 7), 5, 2, 1, 0, 35, 130, 0);
        DUE.same("bySort(4, 2)", x.bySort(4, 2), 1);
        DUE.same("bySort(5, 0)", x.bySort(5, 0), 4);
        // 3 times a and twice b, then twice a, b and twice c: unlike powers show how often each is in it.
        x.power(0, 10);
        x.power(1, 20);
        DUE.same("3 * 10 + 2 * 20 - 20", x.product(0, 5), 50);
        DUE.same("3 * 20 + 2 * 10 - 20", x.product(1, 5), 60);
        DUE.same("2 * 10 + 30 + 2 * 20 - 20", x.product(4, 5), 70);
        DUE.same("2 * 20 + 30 + 2 * 10 - 20", x.product(5, 5), 70);
    }

    private static void bandAndOrders() {
        QuietChannels x = Due.told("band 9;orders 1;user a 0 9 1 9;user b 0 9 1 9;fixed a 4;fixed b 5;");
        DUE.same("4 and 5 is the band's last", x.product(0, 4), 9);
        x.tune(0, 5);
        DUE.same("5 and 5 is beyond, 5 less 5 is 0", x.products(0), 0);
        x = Due.told("orders 0;" + SECOND.substring(9));
        DUE.same("no orders, no products", x.products(0), 0);
        int[] all = new int[8];
        for (int orders = 0; orders < 8; orders++) {
            all[orders] = Due.told("orders " + orders + ";" + SECOND.substring(9)).products(0);
        }
        int third = all[2];
        int fifth = all[4];
        DUE.same("orders 1", all[1], 6);
        DUE.same("2*4-6, 2*6-4, 2*6-10, 2*10-4, 2*10-6; 4+10-6, 6+10-4", third, 7);
        DUE.same("18-8, 30-8, 30-12; 8+10-12, 12+10-8, 20+4-12, 20+6-8", fifth, 7);
        DUE.same("orders 3", all[3], 6 + third);
        DUE.same("orders 5", all[5], 6 + fifth);
        DUE.same("orders 6", all[6], third + fifth);
        DUE.same("orders 7", all[7], 6 + third + fifth);
        x = Due.told(SECOND);
        x.tune(1, 0);
        DUE.same("without b's channel", x.products(0), 2);
        DUE.same("hits of one without a channel", x.hits(1), -2);
        DUE.same("hitBy of one without a channel", x.hitBy(1, 0), -2);
    }

    private static void bySites() {
        QuietChannels x = Due.told("orders 1;user a 2 9 1 30;user b 1 9 1 30;user c 2 9 1 30;user d 1 9 1 30;"
                + "fixed a 1;fixed b 2;fixed c 3;fixed d 4;");
        DUE.same("products of two sites", x.products(0), 4);
        DUE.row("product 0, of site 1", told(x, 0), 0, 1, 3, -2, 6, 13, 0);
        DUE.row("product 1, of site 1", told(x, 1), 1, 3, 1, -2, 2, 13, 0);
        DUE.row("product 2, of site 2", told(x, 2), 0, 0, 2, -2, 4, 13, 0);
        DUE.row("product 3, of site 2", told(x, 3), 1, 2, 0, -2, 2, 13, 0);
    }

    private static void levels() {
        QuietChannels x = Due.told(SECOND);
        x.power(0, 2);
        DUE.same("LEVEL 0 is heard", x.products(1), 6);
        DUE.same("and hits", x.hits(2), 1);
        x.power(0, 1);
        DUE.same("a level below 0", x.product(0, 5), -1);
        DUE.same("it isn't heard", x.products(1), 2);
        DUE.same("all the same it is a product", x.products(0), 6);
        DUE.same("it hits nobody", x.product(0, 6), 0);
        DUE.same("bySort(0, 1)", x.bySort(0, 1), 1);
        DUE.same("bySort(1, 2)", x.bySort(1, 2), 1);
        x = Due.told("loss 0 99 7;orders 7;user a 0 1 1 30;user b 0 2 1 30;fixed a 7;fixed b 8;");
        DUE.same("a and b, loss 0", x.product(0, 5), 3);
        DUE.same("b less a", x.product(1, 5), 3);
        DUE.same("twice a less b, loss 99", x.product(2, 5), 4 - 99);
        DUE.same("twice b less a", x.product(3, 5), 5 - 99);
        DUE.same("three times a less twice b, loss 7", x.product(4, 5), 0);
        DUE.same("three times b less twice a", x.product(5, 5), 1);
        DUE.same("loudest: none hits", x.loudest(), -2);
        x = Due.told(SECOND);
        DUE.same("loudest, the first of three", x.loudest(), 0);
        x.power(2, 4);
        DUE.same("loudest", x.loudest(), 4);
    }

    private static void guards() {
        String text = "user a 0 9 1 30;user b 0 9 1 30;user c 0 9 1 30;fixed a 4;fixed b 6;fixed c ";
        int[] hits = new int[4];
        for (int guard = 0; guard < 4; guard++) {
            hits[guard] = Due.told("orders 1;guard " + guard + ";" + text + "13;").hits(2);
        }
        DUE.row("10 is 3 from 13", hits, 0, 0, 0, 1);
        DUE.same("from above", Due.told("orders 1;guard 2;" + text + "8;").hits(2), 1);
        DUE.same("who is in it isn't hit", Due.told("orders 1;guard 5;" + text + "30;").products(2), 0);
        DUE.same("at the lowest end", Due.told("orders 1;guard 1;user a 0 9 1 30;user b 0 9 1 30;user c 0 9 1 30;"
                + "fixed a 8;fixed b 10;fixed c 1;").hits(2), 1);
        DUE.same("at the highest end", Due.told("band 60;orders 1;guard 1;user a 0 9 1 30;user b 0 9 1 30;"
                + "user c 0 9 1 60;fixed a 29;fixed b 30;fixed c 60;").hits(2), 1);
        DUE.same("beyond the band", Due.told("band 59;orders 1;guard 2;user a 0 9 1 30;user b 0 9 1 30;"
                + "user c 0 9 1 59;fixed a 30;fixed b 30;fixed c 59;").hits(2), 0);
        // Without a CHANNEL, that is 0, none is near the product on 2.
        QuietChannels x = Due.told("orders 1;guard 5;" + text + "30;");
        x.tune(2, 0);
        DUE.same("who has none isn't hit", x.product(1, 4) == 2 ? x.product(1, 6) : -9, 0);
    }

    private static void slots() {
        QuietChannels x = Due.told(SECOND + "slots a 3;slots b 6;slots c 12;");
        DUE.same("a and b, b and c have a slot in common", x.products(0), 4);
        DUE.same("none has one with both", x.products(2), 0);
        DUE.same("when", x.when(2), 0);
        x.slots(2, 2);
        DUE.same("all have slot 2", x.products(0), 6);
        DUE.same("hits", x.products(2), 3);
        DUE.same("when", x.when(2), 2);
        x.slots(2, 250);
        DUE.same("only what the hit one has", x.when(2), 2);
        x.slots(0, 255);
        x.slots(1, 127);
        DUE.same("of all who are in it", x.when(2), 122);
        DUE.same("when of one that isn't hit", Due.told(FIFTH).when(0), 0);
        x.tune(2, 0);
        DUE.same("when of one without a channel", x.when(2), 0);
        // Three in one product: each two have a slot in common, all three have none.
        x = Due.told("user a 0 9 1 30;user b 0 9 1 30;user c 0 9 1 30;fixed a 3;fixed b 9;fixed c 4;"
                + "slots a 3;slots b 6;slots c 5;");
        DUE.same("of two", x.bySort(2, 0), 4);
        DUE.same("of three", x.bySort(3, 0), 0);
        // Two products hit one user in unlike slots: both are told.
        x = Due.told("orders 1;user a 0 9 1 30;user b 0 9 1 30;user c 0 9 1 30;user d 0 9 1 30;user e 0 9 1 30;"
                + "fixed a 1;fixed b 9;fixed c 2;fixed d 8;fixed e 10;slots a 1;slots b 1;slots c 4;slots d 4;");
        DUE.same("when of two products", x.when(4), 5);
        DUE.same("hits of two products", x.hits(4), 2);
        // By a, then b: a and b, a and e, b and e, c and d.
        DUE.row("hitBy", new int[] {x.hitBy(4, 0), x.hitBy(4, 1), x.hitBy(4, 2)}, 0, 3, -2);
    }

    private static void links() {
        String text = "orders 1;user a 0 3 1 30;user b 0 3 1 30;user c 2 3 1 30;fixed a 4;fixed b 6;fixed c 10;";
        DUE.same("not linked", Due.told(text).hits(2), 0);
        DUE.same("linked with another site", Due.told(text + "link 0 1 0;link 2 1 0;").hits(2), 0);
        DUE.same("linked, loss 1 of level 1", Due.told(text + "link 0 2 1;").hits(2), 1);
        DUE.same("linked, told the other way", Due.told(text + "link 2 0 1;").hits(2), 1);
        DUE.same("linked, loss 2 of level 1", Due.told(text + "link 0 2 2;").hits(2), 0);
        QuietChannels x = Due.told(text + "link 0 2 0;");
        x.power(0, 1);
        DUE.same("not heard at its own site", x.hits(2), 0);
        DUE.same("c makes no product with a and b", x.products(0), 2);
        for (int site = 0; site < 3; site++) {
            String own = "loss 6 0 0;" + SECOND.replace(" 0 3 ", " " + site + " 3 ");
            DUE.same("LEVEL 0 at its own site " + site, Due.told(own).products(2), 3);
        }
    }

    private static void crowds() {
        String text = "orders 0;user a 0 0 1 30;user b 0 0 1 30;user c 1 0 1 30;user d 0 0 1 30;"
                + "fixed a 5;fixed b 7;fixed c 5;fixed d 6;";
        QuietChannels x = Due.told(text);
        DUE.row("space 1", new int[] {x.crowds(0), x.crowds(1), x.crowds(2), x.crowds(3)}, 0, 0, 0, 0);
        x = Due.told("space 2;" + text);
        DUE.row("space 2", new int[] {x.crowds(0), x.crowds(1), x.crowds(2), x.crowds(3)}, 8, 8, 0, 3);
        DUE.same("couples", x.products(3), 2);
        DUE.same("clean", x.clean(), 0);
        DUE.same("mostSpace", x.mostSpace(), 1);
        x = Due.told("space 3;" + text);
        DUE.row("space 3", new int[] {x.crowds(0), x.crowds(1), x.crowds(2), x.crowds(3)}, 10, 9, 0, 3);
        DUE.same("couples", x.products(3), 3);
        x.slots(0, 1);
        x.slots(1, 2);
        DUE.same("without a slot in common", x.crowds(0), 8);
        x.tune(3, 0);
        DUE.same("without a channel", x.crowds(0), 0);
        DUE.same("crowds(3)", x.crowds(3), 0);
        DUE.same("mostSpace", x.mostSpace(), 20);
        x.tune(3, 1);
        x.tune(0, 1);
        DUE.same("on channel 1", x.crowds(0), 8);
        DUE.same("nearest on channel 1", x.nearest(0), 3);
        x = Due.told(text);
        x.tune(3, 7);
        DUE.same("one channel for two crowds by any space", x.mostSpace(), -2);
        DUE.same("couples", x.products(3), 1);
        x.tune(3, 27);
        DUE.same("2 apart", x.mostSpace(), 2);
        x.tune(1, 0);
        DUE.same("22 apart", x.mostSpace(), 20);
        x.tune(3, 24);
        DUE.same("19 apart", x.mostSpace(), 19);
    }

    private static void makers() {
        QuietChannels x = Due.told(SECOND);
        DUE.same("worst, all make two", x.worst(), 0);
        DUE.row("rank", new int[] {x.rank(0), x.rank(1), x.rank(2), x.rank(3)}, 0, 1, 2, -1);
        x.power(0, 1);
        DUE.same("b and c make the one that is left", x.worst(), 1);
        DUE.row("rank", new int[] {x.rank(0), x.rank(1), x.rank(2)}, 1, 2, 0);
        x.tune(0, 0);
        DUE.same("no hits", x.worst(), -2);
        DUE.row("rank", new int[] {x.rank(0), x.rank(1), x.rank(2)}, 0, 1, 2);
        // One product that hits two users counts twice.
        x = Due.told("orders 1;user d 1 3 1 30;user a 0 3 1 30;user b 0 3 1 30;user c 1 3 1 30;link 0 1 0;"
                + "fixed a 4;fixed b 6;fixed c 10;fixed d 10;");
        DUE.same("hits", x.products(2), 2);
        DUE.same("bySort(0, 2)", x.bySort(0, 2), 2);
        DUE.same("as bits", x.product(x.loudest(), 6), 9);
        DUE.same("worst", x.worst(), 1);
        DUE.row("rank", new int[] {x.rank(0), x.rank(1), x.rank(2), x.rank(3)}, 1, 2, 0, 3);
    }

    /** Each of them asked first, so that nothing another call has listed is left. */
    private static void askedFirst() {
        DUE.same("hits", Due.told(SECOND).hits(2), 1);
        DUE.same("when", Due.told(SECOND).when(2), 255);
        DUE.same("clearance", Due.told(SECOND).clearance(2), 0);
        DUE.same("loudest", Due.told(SECOND).loudest(), 0);
        DUE.same("worst", Due.told(SECOND).worst(), 0);
        DUE.same("bySort", Due.told(SECOND).bySort(1, 2), 2);
        DUE.same("product", Due.told(SECOND).product(5, 4), 4);
        DUE.same("hitBy", Due.told(SECOND).hitBy(0, 0), 5);
        DUE.same("products", Due.told(SECOND).products(2), 3);
        QuietChannels x = Due.told("orders 1;user d 1 0 1 30;" + SECOND.substring(9));
        DUE.same("rank", x.rank(0), 1);
        x.tune(1, 0);
        DUE.same("rank", x.rank(0), 0);
    }

    private static void clearances() {
        QuietChannels x = Due.told(SECOND);
        x.tune(2, 17);
        // a and b are 10, b less a is 2; of c and one other: 21, 23, 13, 11.
        DUE.same("clearance(2)", x.clearance(2), 7);
        DUE.same("clearance(0): 17 - 6 = 11 is nearest", x.clearance(0), 7);
        DUE.same("clearance(1): 17 - 4 = 13 is nearest", x.clearance(1), 7);
        x.tune(2, 10);
        DUE.same("clearance of one that is hit", x.clearance(2), 0);
        x.power(0, 1);
        DUE.same("what isn't heard doesn't count", x.clearance(2), -2);
        x.tune(2, 0);
        DUE.same("without a channel", x.clearance(2), -2);
        DUE.same("of other slots", withSlots(), -2);
        String apart = "orders 1;band 60;user a 0 3 1 30;user b 0 3 1 30;user c 2 3 1 60;fixed a 1;fixed b 2;fixed c 60;";
        DUE.same("of a site that isn't linked", Due.told(apart).clearance(2), -2);
        DUE.same("linked too weakly", Due.told(apart + "link 0 2 2;").clearance(2), -2);
        DUE.same("linked: 1 and 3", Due.told(apart + "link 0 2 1;").clearance(2), 57);
    }

    private static int withSlots() {
        QuietChannels x = Due.told(SECOND + "slots a 3;slots b 2;slots c 1;");
        return x.clearance(2);
    }

    private static void nearest() {
        QuietChannels x = Due.told("orders 0;user a 0 0 1 30;user b 0 0 1 30;user c 0 0 1 30;user d 1 0 1 30;"
                + "fixed a 10;fixed b 14;fixed c 6;fixed d 10;slots b 1;slots c 2;");
        DUE.same("two are 4 away: the first", x.nearest(0), 1);
        DUE.same("nearest(1)", x.nearest(1), 0);
        DUE.same("none else at the site", x.nearest(3), -2);
        x.tune(0, 0);
        DUE.same("it has none", x.nearest(0), -2);
        DUE.same("nor has it for others", x.nearest(2), 1);
        DUE.same("slots don't matter", x.nearest(1), 2);
        x.tune(2, 0);
        DUE.same("the others have none", x.nearest(1), -2);
    }

    private static void wrongInputs() {
        QuietChannels x = Due.told(SECOND);
        for (int user : new int[] {-1, 3, 6, BIG, SMALL}) {
            DUE.same("hits(" + user + ")", x.hits(user), -1);
            DUE.same("hitBy(" + user + ", 0)", x.hitBy(user, 0), -1);
            DUE.same("crowds(" + user + ")", x.crowds(user), -1);
            DUE.same("when(" + user + ")", x.when(user), -1);
            DUE.same("clearance(" + user + ")", x.clearance(user), -1);
            DUE.same("nearest(" + user + ")", x.nearest(user), -1);
            DUE.same("rank(" + user + ")", x.rank(user), -1);
        }
        DUE.same("hitBy(0, -1)", x.hitBy(0, -1), -1);
        DUE.same("hitBy(0, MAX)", x.hitBy(0, BIG), -2);
        DUE.same("hitBy(0, MIN)", x.hitBy(0, SMALL), -1);
        DUE.same("products(4)", x.products(4), -1);
        DUE.same("products(-1)", x.products(-1), -1);
        for (int[] w : new int[][] {{-1, 0}, {6, 0}, {0, -1}, {0, 7}, {BIG, 0}, {SMALL, 0}, {0, BIG}, {0, SMALL}}) {
            DUE.same("product(" + w[0] + ", " + w[1] + ")", x.product(w[0], w[1]), -1000);
        }
        for (int[] w : new int[][] {{-1, 0}, {6, 0}, {0, -1}, {0, 3}, {BIG, 0}, {SMALL, 0}, {0, BIG}, {0, SMALL}}) {
            DUE.same("bySort(" + w[0] + ", " + w[1] + ")", x.bySort(w[0], w[1]), -1);
        }
    }
}
