import java.util.NoSuchElementException;

/** Promises 6 to 13, 41 and 45 to 48: what changes, what is told of a user, undone changes, images, counts. */
public final class ChangeTest {
    private static final Due DUE = new Due("ChangeTest");
    private static final String TWO = "band 20;user a 1 10 2 9;user b 0 20 1 20;block 3 4;fixed b 20;";
    private static final int BIG = Integer.MAX_VALUE;
    private static final int SMALL = Integer.MIN_VALUE;

    public static void main(String[] args) {
        tune();
        block();
        powerAndSlots();
        complete();
        completeGivesUp();
        mend();
        user();
        linked();
        undo();
        images();
        counts();
        DUE.end();
    }

    private static void tune() {
        QuietChannels x = Due.told(TWO);
        DUE.same("tune(0, 5)", x.tune(0, 5), 0);
        DUE.same("tune(0, 20), not within its stretch", x.tune(0, 20), 5);
        DUE.same("tune(1, 0)", x.tune(1, 0), 20);
        DUE.same("tune(1, 0) again", x.tune(1, 0), 0);
        DUE.same("all four can be undone", x.count(7), 4);
        int[][] wrong = {{-1, 1}, {2, 1}, {0, -1}, {0, 21}, {BIG, 1}, {SMALL, 1}, {0, BIG}, {0, SMALL}};
        for (int[] w : wrong) {
            DUE.same("tune(" + w[0] + ", " + w[1] + ")", x.tune(w[0], w[1]), -1);
        }
        DUE.row("channels", Due.channels(x, 2), 20, 0);
        DUE.same("refused calls aren't undone", x.count(7), 4);
    }

    private static void block() {
        QuietChannels x = Due.told(TWO);
        DUE.same("blocked(3), told", x.blocked(3), 1);
        DUE.same("block(3)", x.block(3), 0);
        DUE.same("blocked(3)", x.blocked(3), 0);
        DUE.same("block(20)", x.block(20), 1);
        DUE.same("block(1)", x.block(1), 1);
        DUE.same("blocked(2)", x.blocked(2), 0);
        DUE.same("count(5)", x.count(5), 3);
        for (int channel : new int[] {0, 21, -1, BIG, SMALL, 64 + 3}) {
            DUE.same("block(" + channel + ")", x.block(channel), -1);
            DUE.same("blocked(" + channel + ")", x.blocked(channel), -1);
        }
        DUE.same("count(7)", x.count(7), 3);
        DUE.same("undo", x.undo(), 2);
        DUE.same("blocked(1)", x.blocked(1), 0);
    }

    private static void powerAndSlots() {
        QuietChannels x = Due.told(TWO);
        DUE.same("power(0, 30)", x.power(0, 30), 10);
        DUE.same("power(0, 0)", x.power(0, 0), 30);
        DUE.same("power(0, 0)", x.power(0, 0), 0);
        DUE.same("slots(1, 255)", x.slots(1, 255), 255);
        DUE.same("slots(1, 1)", x.slots(1, 1), 255);
        DUE.same("slots(1, 6)", x.slots(1, 6), 1);
        DUE.same("count(7)", x.count(7), 6);
        int[][] wrong = {{-1, 1}, {2, 1}, {0, -1}, {0, 256}, {BIG, 1}, {SMALL, 1}, {0, BIG}, {0, SMALL}};
        for (int[] w : wrong) {
            DUE.same("power(" + w[0] + ", " + w[1] + ")", x.power(w[0], w[1]), -1);
            DUE.same("slots(" + w[0] + ", " + w[1] + ")", x.slots(w[0], w[1]), -1);
        }
        DUE.same("power(0, 31)", x.power(0, 31), -1);
        DUE.same("slots(0, 0)", x.slots(0, 0), -1);
        DUE.same("count(7)", x.count(7), 6);
        DUE.same("power", x.user(0, 1), 0);
        DUE.same("slots", x.user(1, 6), 6);
        for (int i = 5; i >= 0; i--) {
            DUE.same("undo", x.undo(), i);
        }
        DUE.same("power", x.user(0, 1), 10);
        DUE.same("slots", x.user(1, 6), 255);
    }

    private static void complete() {
        // a takes 2 (one look), b 1 (one look), c can't have 1, 2 or 3 (blocked) and takes 4, c's fourth look.
        QuietChannels x = Due.told("orders 0;user a 0 0 2 9;user b 0 0 1 9;user c 0 0 1 9;block 3 3;");
        DUE.same("complete", x.complete(), 6);
        DUE.row("channels", Due.channels(x, 3), 2, 1, 4);
        DUE.same("complete, none to do", x.complete(), 0);
        DUE.same("only one to undo", x.count(7), 1);
        DUE.same("undo", x.undo(), 0);
        DUE.row("channels", Due.channels(x, 3), 0, 0, 0);
        // Two users for one channel: a looks at 1, b at 1, and there is nothing else.
        x = Due.told("orders 0;user a 0 0 1 1;user b 0 0 1 1;");
        DUE.same("complete", x.complete(), -2);
        DUE.row("channels", Due.channels(x, 2), 0, 0);
        DUE.same("nothing to undo", x.count(7), 0);
        // Back to the user ahead: a 1, b can't have 1; a 2, b 1.
        x = Due.told("orders 0;user a 0 0 1 2;user b 0 0 1 1;");
        DUE.same("complete", x.complete(), 4);
        DUE.row("channels", Due.channels(x, 2), 2, 1);
        // What isn't clean stays so: nothing fits, and no users without a channel find nothing.
        x = Due.told("orders 0;user a 0 0 1 1;fixed a 2;user b 0 0 1 9;");
        DUE.same("complete", x.complete(), -2);
        DUE.same("tune", x.tune(1, 5), 0);
        DUE.same("complete", x.complete(), -2);
    }

    private static void completeGivesUp() {
        // b is 20 away from c first at 21: 20 times (b and 20 of c), then b and c, 422 LOOKS; d and e likewise, 162;
        // and a, behind fifteen BLOCKED ones, 16.
        String full = "band 60;orders 0;space 20;block 22 36;user a 0 0 22 37;user b 1 0 1 60;user c 1 0 1 20;"
                + "user d 2 0 1 60;user e 2 0 1 7;";
        QuietChannels x = Due.told(full);
        DUE.same("complete finds with the 600th look", x.complete(), 600);
        DUE.row("channels", Due.channels(x, 5), 37, 21, 1, 21, 1);
        x = Due.told(full + "user f 0 0 60 60;");
        DUE.same("complete gives up at the 601st", x.complete(), -3);
        DUE.same("planned gives up", x.planned(5), -3);
        DUE.row("channels", Due.channels(x, 6), 0, 0, 0, 0, 0, 0);
        DUE.same("nothing to undo", x.count(7), 0);
        DUE.same("with one fewer it finds", x.tune(0, 37), 0);
        DUE.same("complete", x.complete(), 585);
        // c is never 20 away from b: of each of a's CHANNELS a look, 23 of b and 12 of c with each: 300.
        x = Due.told("band 60;orders 0;space 20;user a 0 0 1 2;user b 1 0 1 23;user c 1 0 8 19;");
        DUE.same("complete finds nothing by 600 looks", x.complete(), -2);
        x = Due.told("band 60;orders 0;space 20;user a 0 0 1 3;user b 1 0 1 23;user c 1 0 8 19;");
        DUE.same("complete gives up ahead of the end", x.complete(), -3);
        DUE.same("planned of one that has a channel", x.tune(0, 1) == 0 ? x.planned(0) : 0, -2);
        DUE.same("planned of one that has none", x.planned(1), -2);
    }

    private static void mend() {
        // 5 is a and b's trouble: b as a set is 2, a is 1, and a finds 1.
        QuietChannels x = Due.told("orders 0;user a 0 0 1 9;user b 0 0 1 9;user c 0 0 1 9;fixed a 5;fixed b 5;");
        DUE.same("mended", x.mended(), 1);
        DUE.same("nothing changes by it", x.count(7), 0);
        DUE.same("mend", x.mend(), 1);
        DUE.row("channels", Due.channels(x, 3), 1, 5, 0);
        DUE.same("count(7)", x.count(7), 1);
        DUE.same("mend, all is clean", x.mend(), 0);
        DUE.same("nothing to undo by that", x.count(7), 1);
        DUE.same("undo", x.undo(), 0);
        DUE.row("channels", Due.channels(x, 3), 5, 5, 0);
        // a can't leave 5, so b goes, the least set by size, though greater as a number than a set with a.
        x = Due.told("orders 0;user a 0 0 5 5;user b 0 0 1 9;fixed a 5;fixed b 5;");
        DUE.same("mended", x.mended(), 2);
        // Both wrong by themselves: both go.
        x = Due.told("orders 0;user a 0 0 1 4;user b 0 0 1 9;user c 0 0 1 4;fixed a 5;fixed b 7;fixed c 6;");
        DUE.same("mend", x.mend(), 5);
        DUE.row("channels", Due.channels(x, 3), 1, 7, 2);
        // c alone is one, a and b, who aren't in one slot, are two and the lesser number.
        x = Due.told("orders 0;user a 0 0 1 9;user b 0 0 1 9;user c 0 0 1 9;user d 0 0 1 9;"
                + "slots a 1;slots b 2;fixed a 5;fixed b 5;fixed c 5;");
        DUE.same("mended", x.mended(), 4);
        // All must go: each has the other's only CHANNEL.
        x = Due.told("orders 0;user a 0 0 1 1;user b 0 0 2 2;fixed a 2;fixed b 1;");
        DUE.same("mend", x.mend(), 3);
        DUE.row("channels", Due.channels(x, 2), 1, 2);
        // Nothing is left for a at all.
        x = Due.told("orders 0;user a 0 0 1 4;block 1 4;fixed a 5;");
        DUE.same("mended", x.mended(), -2);
        DUE.same("mend", x.mend(), -2);
        DUE.same("nothing changes", x.user(0, 4), 5);
        DUE.same("count(7)", x.count(7), 0);
        DUE.same("mend of no users", new QuietChannels().mend(), 0);
    }

    private static int thrown(QuietChannels x, int user, int what) {
        try {
            x.user(user, what);
            return 0;
        } catch (IndexOutOfBoundsException e) {
            return e.getClass() == IndexOutOfBoundsException.class ? 1 : 3;
        } catch (NoSuchElementException e) {
            return e.getClass() == NoSuchElementException.class ? 2 : 3;
        }
    }

    private static void user() {
        QuietChannels x = Due.told(TWO + "slots a 12;");
        int[] a = new int[7];
        int[] b = new int[7];
        for (int what = 0; what < 7; what++) {
            a[what] = x.user(0, what);
            b[what] = x.user(1, what);
        }
        DUE.row("user 0", a, 1, 10, 2, 9, 0, 0, 12);
        DUE.row("user 1", b, 0, 20, 1, 20, 20, 1, 255);
        DUE.same("user(2, 0) throws", thrown(x, 2, 0), 1);
        DUE.same("user(-1, 0) throws", thrown(x, -1, 0), 1);
        DUE.same("user(2, 7) throws", thrown(x, 2, 7), 1);
        DUE.same("user(MIN, -1) throws", thrown(x, SMALL, -1), 1);
        DUE.same("user(0, 7) throws", thrown(x, 0, 7), 2);
        DUE.same("user(0, -1) throws", thrown(x, 0, -1), 2);
        DUE.same("user(1, MAX) throws", thrown(x, 1, BIG), 2);
        x.tune(0, 9);
        DUE.same("right at its high", x.user(0, 5), 1);
        x.tune(0, 2);
        DUE.same("right at its low", x.user(0, 5), 1);
        x.tune(0, 10);
        DUE.same("not right above", x.user(0, 5), 0);
        x.tune(0, 1);
        DUE.same("not right below", x.user(0, 5), 0);
        x.tune(0, 3);
        DUE.same("not right on a blocked one", x.user(0, 5), 0);
        x.block(3);
        DUE.same("right as it isn't blocked any more", x.user(0, 5), 1);
    }

    private static void linked() {
        QuietChannels x = Due.told("link 2 1 7;link 0 1 0;");
        DUE.same("linked(1, 2)", x.linked(1, 2), 7);
        DUE.same("linked(2, 1)", x.linked(2, 1), 7);
        DUE.same("linked(1, 0)", x.linked(1, 0), 0);
        DUE.same("linked(0, 2)", x.linked(0, 2), -2);
        for (int[] w : new int[][] {{0, 0}, {1, 1}, {2, 2}, {-1, 0}, {0, -1}, {3, 0}, {0, 3}, {3, 3}, {BIG, 0}, {0, SMALL}}) {
            DUE.same("linked(" + w[0] + ", " + w[1] + ")", x.linked(w[0], w[1]), -1);
        }
    }

    private static void undo() {
        QuietChannels x = Due.told(TWO);
        DUE.same("undo of nothing", x.undo(), -1);
        for (int i = 1; i <= 20; i++) {
            x.tune(0, i);
        }
        DUE.same("count(7)", x.count(7), 20);
        x.power(0, 11);
        x.slots(0, 3);
        x.block(9);
        DUE.same("no more than 20", x.count(7), 20);
        DUE.same("undo of block", x.undo(), 19);
        DUE.same("blocked(9)", x.blocked(9), 0);
        DUE.same("slots still", x.user(0, 6), 3);
        DUE.same("undo of slots", x.undo(), 18);
        DUE.same("slots", x.user(0, 6), 255);
        DUE.same("undo of power", x.undo(), 17);
        DUE.same("power", x.user(0, 1), 10);
        for (int i = 16; i >= 0; i--) {
            DUE.same("undo", x.undo(), i);
            DUE.same("channel", x.user(0, 4), i + 3);
        }
        DUE.same("undo of nothing", x.undo(), -1);
        DUE.same("channel", x.user(0, 4), 3);
        x.tune(0, 4);
        DUE.same("asking changes nothing", x.chance(1, 20, 0) >= 0 && x.mended() >= -2 && x.turned(-1) >= 0 ? 1 : 0, 1);
        DUE.same("count(7)", x.count(7), 1);
        DUE.same("keep", x.keep(), 2);
        DUE.same("keep can't be undone", x.count(7), 1);
    }

    private static void images() {
        QuietChannels x = Due.told(TWO);
        DUE.same("back without an image", x.back(), -1);
        DUE.same("keep", x.keep(), 1);
        x.tune(0, 5);
        x.tune(1, 6);
        x.power(0, 1);
        x.slots(1, 2);
        x.block(3);
        DUE.same("back", x.back(), 1);
        DUE.same("nothing to undo then", x.count(7), 0);
        DUE.row("channels", Due.channels(x, 2), 0, 20);
        DUE.same("power", x.user(0, 1), 10);
        DUE.same("slots", x.user(1, 6), 255);
        DUE.same("blocked(3)", x.blocked(3), 1);
        x.tune(0, 7);
        DUE.same("keep in place of the one ahead", x.keep(), 2);
        x.tune(0, 0);
        x.tune(1, 0);
        DUE.same("undo leaves the image", x.undo(), 2);
        DUE.same("back", x.back(), 2);
        x.tune(0, 1);
        DUE.same("it stays", x.back(), 2);
        DUE.row("channels", Due.channels(x, 2), 7, 20);
    }

    private static void counts() {
        QuietChannels x = Due.told("band 10;guard 4;space 7;orders 5;user a 0 0 1 1;user b 0 0 1 1;block 2 5;block 5 6;");
        x.tune(1, 10);
        x.feed(0, 0, 0, 0, 0);
        int[] all = new int[9];
        for (int what = 0; what < 9; what++) {
            all[what] = x.count(what);
        }
        DUE.row("count", all, 2, 10, 4, 7, 5, 5, 1, 1, 20);
        DUE.same("count(9)", x.count(9), -1);
        DUE.same("count(-1)", x.count(-1), -1);
        DUE.same("count(MIN)", x.count(SMALL), -1);
    }
}
