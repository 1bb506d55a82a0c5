/** Promises 1 to 5: a new object, the tape, texts and their faults, names. */
public final class TextTest {
    private static final Due DUE = new Due("TextTest");
    private static final String A = "user a 0 0 1 1;";

    public static void main(String[] args) {
        newObject();
        tape();
        goodTexts();
        misplaced();
        tooMuch();
        toldAlready();
        notTold();
        whatATextChanges();
        names();
        DUE.end();
    }

    private static void good(String text, int lines) {
        QuietChannels x = new QuietChannels();
        DUE.same("text of '" + text + "'", Due.tell(x, text), lines);
        DUE.same("fault(0) of '" + text + "'", x.fault(0), 0);
        DUE.same("fault(1) of '" + text + "'", x.fault(1), -1);
    }

    private static void bad(String text, int fault, int place) {
        QuietChannels x = new QuietChannels();
        DUE.same("text of '" + text + "'", Due.tell(x, text), -1);
        DUE.same("fault(0) of '" + text + "'", x.fault(0), fault);
        DUE.same("fault(1) of '" + text + "'", x.fault(1), place);
        DUE.same("count(0) of '" + text + "'", x.count(0), 0);
    }

    private static void newObject() {
        QuietChannels x = new QuietChannels();
        int[] counts = new int[9];
        for (int what = 0; what < 9; what++) {
            counts[what] = x.count(what);
        }
        DUE.row("count", counts, 0, 30, 0, 1, 2, 0, 0, 0, 0);
        DUE.same("fault(0)", x.fault(0), 0);
        DUE.same("fault(1)", x.fault(1), -1);
        DUE.same("fault(2)", x.fault(2), -1);
        DUE.same("fault(-1)", x.fault(-1), -1);
        DUE.same("text(0)", x.text(0), 0);
        DUE.same("named(0)", x.named(0), -1);
    }

    private static void tape() {
        QuietChannels x = new QuietChannels();
        for (int i = 1; i <= 35; i++) {
            DUE.same("feed", x.feed(0, -1, 1, Integer.MIN_VALUE, 7), 20 * i);
        }
        DUE.same("feed beyond 700", x.feed(1, 2, 3, 4, 5), -1);
        DUE.same("count(8)", x.count(8), 700);
        DUE.same("text(701)", x.text(701), -2);
        DUE.same("text(-1)", x.text(-1), -2);
        DUE.same("fault(0) is not of a text that was -2", x.fault(0), 0);
        DUE.same("count(8)", x.count(8), 700);
        DUE.same("text(700) of bytes 0", x.text(700), -1);
        DUE.same("fault(1)", x.fault(1), 0);
        DUE.same("count(8) behind a text", x.count(8), 0);
        DUE.same("feed", x.feed(0x62616e64, 0x20393b20, 0x20202020, 0x20202020, 0x20202020), 20);
        DUE.same("text of the first seven bytes", x.text(7), 1);
        DUE.same("band", x.count(1), 9);
        DUE.same("all of the tape is gone", x.count(8), 0);
        DUE.same("text(1)", x.text(1), -2);
        Due.feed(x, "band 60;");
        DUE.same("a text that ends within a number", x.text(6), -1);
        DUE.same("its place", x.fault(1), 6);
        Due.feed(x, "band 60;");
        DUE.same("a text that ends within a word", x.text(3), -1);
        DUE.same("its place", x.fault(1), 0);
    }

    private static void goodTexts() {
        good("", 0);
        good(" \n ", 0);
        good("band 4;", 1);
        good("band 60;", 1);
        good("band\n10 ;  guard 5;\n", 2);
        good("guard 0;space 1;orders 0;", 3);
        good("space 20;orders 7;", 2);
        good("loss 0 99 0;seed 99999;", 2);
        good("seed 0;", 1);
        good("seed 0000000000000000000000007;", 1);
        good("user abcdef 0 0 1 1;", 1);
        good("user a0 0 1 1;", 1);
        good("user a 2 30 30 30;fixed a 30;slots a 255;", 3);
        good("band 40;user a 0 0 1 31;", 2);
        good("user a 0 0 1 1;user ab 0 0 1 1;fixed ab 30;fixed a 1;", 4);
        good("link 0 1 99;link 0 2 0;link 1 2 5;", 3);
        good("block 1 30;block 1 1;block 30 30;block 2 3;block 2 3;block 2 3;", 6);
        good(A + "guard 1;space 2;orders 3;loss 1 2 3;seed 4;", 6);
    }

    private static void misplaced() {
        bad("band 10", 1, 7);
        bad("band 10 \n", 1, 9);
        bad("band", 1, 4);
        bad("band ;", 1, 5);
        bad("band ten;", 1, 5);
        bad(";", 1, 0);
        bad("band 10;;", 1, 8);
        bad("band 10 11;", 1, 8);
        bad("band 10 guard 1;", 1, 8);
        bad("Band 10;", 1, 0);
        bad("bands 10;", 1, 0);
        bad("abcdefg 1;", 1, 0);
        bad("10;", 1, 0);
        bad("\tband 5;", 1, 0);
        bad("band\u00a05;", 1, 4);
        bad("band -5;", 1, 5);
        bad("user abcdefg 0 0 1 1;", 1, 5);
        bad("user band 0 0 1 1;", 1, 5);
        bad("user guard 0 0 1 1;", 1, 5);
        bad("user space 0 0 1 1;", 1, 5);
        bad("user orders 0 0 1 1;", 1, 5);
        bad("user loss 0 0 1 1;", 1, 5);
        bad("user user 0 0 1 1;", 1, 5);
        bad("user fixed 0 0 1 1;", 1, 5);
        bad("user block 0 0 1 1;", 1, 5);
        bad("user link 0 0 1 1;", 1, 5);
        bad("user slots 0 0 1 1;", 1, 5);
        bad("user seed 0 0 1 1;", 1, 5);
        bad("user 1 0 0 1 1;", 1, 5);
        bad("user a 0 0 1;", 1, 12);
        bad("user a 0 0 1 1x;", 1, 14);
        bad("fixed user 1;", 1, 6);
        bad("slots slots 1;", 1, 6);
        bad(A + "fixed", 1, 20);
        bad(A + "band 5;", 1, 15);
        bad(A + "fixed a 1;band 5;", 1, 25);
        bad("block 1 1;band 5;", 1, 10);
        bad("band 5;block 1 1;band 5;", 1, 17);
        bad("abcdef 1;", 1, 0);
        bad("loss 1 2;", 1, 8);
        bad("link 0 1;", 1, 8);
    }

    private static void tooMuch() {
        bad("band 3;", 2, 5);
        bad("band 61;", 2, 5);
        bad("band 99999999999999999999999999", 2, 5);
        bad("band 4294967300;", 2, 5);
        bad("guard 6;", 2, 6);
        bad("guard 9;band 3;", 2, 6);
        bad("space 0;", 2, 6);
        bad("space 21;", 2, 6);
        bad("orders 8;", 2, 7);
        bad("loss 100 0 0;", 2, 5);
        bad("loss 0 100 0;", 2, 7);
        bad("loss 0 0 100;", 2, 9);
        bad("seed 100000;", 2, 5);
        bad("user a 3 0 1 1;", 2, 7);
        bad("user a 0 31 1 1;", 2, 9);
        bad("user a 0 0 0 1;", 2, 11);
        bad("user a 0 0 31 31;", 2, 11);
        bad("user a 0 0 2 1;", 2, 13);
        bad("user a 0 0 1 31;", 2, 13);
        bad("band 4;user a 0 0 1 5;", 2, 20);
        bad(A + "fixed a 0;", 2, 23);
        bad(A + "fixed a 31;", 2, 23);
        bad(A + "slots a 0;", 2, 23);
        bad(A + "slots a 256;", 2, 23);
        bad("block 0 1;", 2, 6);
        bad("block 31 31;", 2, 6);
        bad("block 1 31;", 2, 8);
        bad("block 5 4;", 2, 8);
        bad("link 3 0 1;", 2, 5);
        bad("link 0 3 1;", 2, 7);
        bad("link 1 1 1;", 2, 7);
        bad("link 0 1 100;", 2, 9);
        StringBuilder users = new StringBuilder();
        StringBuilder blocks = new StringBuilder();
        for (int i = 0; i < 6; i++) {
            users.append("user ").append((char) ('a' + i)).append(" 0 0 1 1;");
            blocks.append("block 1 1;");
        }
        good(users.toString(), 6);
        good(blocks.toString(), 6);
        bad(users + "user", 2, 90);
        bad(users + "user a", 2, 90);
        bad(blocks + "block 0", 2, 60);
    }

    private static void toldAlready() {
        bad("band 5;band 5;", 3, 7);
        bad("guard 1;guard 9", 3, 8);
        bad("space 1;space 1;", 3, 8);
        bad("orders 1;orders 1;", 3, 9);
        bad("loss 1 1 1;loss 1 1 1;", 3, 11);
        bad("seed 1;seed 1;", 3, 7);
        bad("guard 1;space 1;orders 1;loss 1 1 1;seed 1;guard 1;", 3, 43);
        bad("seed 1;band 5;loss 1 1 1;seed 1;", 3, 25);
        bad(A + "user b 0 0 1 1;fixed a 1;fixed b 1;fixed a 1;", 3, 56);
        bad(A + "user b 0 0 1 1;slots a 1;slots b 1;slots a 1;", 3, 56);
        bad(A + "user a", 3, 20);
        bad(A + "fixed a 1;fixed a", 3, 31);
        bad(A + "slots a 1;slots a", 3, 31);
        bad("link 0 1 5;link 1 0 5;", 3, 18);
        bad("link 0 1 5;link 0 1", 3, 18);
        good(A + "user b 0 0 1 1;fixed a 1;fixed b 1;slots b 1;slots a 1;", 6);
    }

    private static void notTold() {
        bad("fixed a 1;", 4, 6);
        bad("slots a 1;", 4, 6);
        bad("fixed a 1;" + A, 4, 6);
        bad(A + "fixed b", 4, 21);
        bad(A + "slots aa", 4, 21);
    }

    private static void whatATextChanges() {
        QuietChannels x = Due.told("band 20;guard 2;space 3;orders 5;block 2 4;" + A + "fixed a 7;slots a 9;link 1 0 8;");
        DUE.same("fixed channel", x.user(0, 4), 7);
        DUE.same("told slots", x.user(0, 6), 9);
        DUE.same("told blocks", x.count(5), 3);
        DUE.same("keep", x.keep(), 1);
        DUE.same("tune", x.tune(0, 8), 7);
        DUE.same("a text with a fault", Due.tell(x, "band 10;user"), -1);
        DUE.same("its place", x.fault(1), 12);
        DUE.same("band stays", x.count(1), 20);
        DUE.same("channel stays", x.user(0, 4), 8);
        DUE.same("what can be undone stays", x.count(7), 1);
        DUE.same("a text that is too long", x.text(1), -2);
        DUE.same("the fault stays by that", x.fault(0), 1);
        DUE.same("the image stays", x.back(), 1);
        DUE.same("as it was kept", x.user(0, 4), 7);
        DUE.same("tune", x.tune(0, 9), 7);
        DUE.same("an empty text", x.text(0), 0);
        DUE.same("its fault", x.fault(0), 0);
        DUE.same("its place", x.fault(1), -1);
        DUE.same("no users", x.count(0), 0);
        DUE.same("band is as at first", x.count(1), 30);
        DUE.same("guard is as at first", x.count(2), 0);
        DUE.same("space is as at first", x.count(3), 1);
        DUE.same("orders are as at first", x.count(4), 2);
        DUE.same("nothing is blocked", x.count(5), 0);
        DUE.same("nothing to undo", x.undo(), -1);
        DUE.same("no image", x.back(), -1);
        DUE.same("no link", x.linked(0, 1), -2);
    }

    private static int packed(String name) {
        int code = 0;
        for (int i = 0; i < 6; i++) {
            code = code << 5 | (i < name.length() ? name.charAt(i) - 96 : 0);
        }
        return code;
    }

    private static void names() {
        QuietChannels x = Due.told("user z 0 0 1 1;user abcdef 0 0 1 1;user za 0 0 1 1;user zzzzzz 0 0 1 1;");
        DUE.same("named z", x.named(26 << 25), 0);
        DUE.same("named abcdef", x.named(packed("abcdef")), 1);
        DUE.same("named za", x.named(26 << 25 | 1 << 20), 2);
        DUE.same("named zzzzzz", x.named(packed("zzzzzz")), 3);
        DUE.same("named a", x.named(1 << 25), -1);
        DUE.same("named abcde", x.named(packed("abcde")), -1);
        DUE.same("named nothing", x.named(0), -1);
        DUE.same("z at the low end", x.named(26), -1);
        DUE.same("a bit above", x.named(26 << 25 | 1 << 30), -1);
        DUE.same("named below 0", x.named(26 << 25 | 1 << 31), -1);
    }
}
