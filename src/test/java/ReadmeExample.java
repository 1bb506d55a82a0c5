public final class ReadmeExample {
    private static final String TEXT = "band 20; guard 1;\n"
            + "user a 0 10 1 20; user b 0 10 1 20; user c 0 10 5 9;\n"
            + "fixed a 5;\n";

    /** Feeds a text, twenty bytes a call with blanks behind its end, and has it read. */
    static int tell(QuietChannels x, String text) {
        for (int at = 0; at < text.length(); at += 20) {
            int[] five = new int[5];
            for (int i = 0; i < 20; i++) {
                int sign = at + i < text.length() ? text.charAt(at + i) : ' ';
                five[i / 4] = five[i / 4] << 8 | sign;
            }
            x.feed(five[0], five[1], five[2], five[3], five[4]);
        }
        return x.text(text.length());
    }

    private static void show(String what, int answer) {
        System.out.println(what + ": " + answer);
    }

    public static void main(String[] args) {
        QuietChannels x = new QuietChannels();
        show("lines read", tell(x, TEXT));
        show("number of c", x.named(3 << 25));
        show("looks of a plan for b and c", x.complete());
        show("channel of b", x.user(1, 4));
        show("channel of c", x.user(2, 4));
        show("b had", x.tune(1, 6));
        show("products", x.products(0));
        show("hits", x.products(2));
        show("users changed by mending, as bits", x.mend());
        show("channel of b then", x.user(1, 4));
        show("all is clean", x.clean());
        show("changes that can be undone still, one being undone", x.undo());
        show("lines of a text with a fault", tell(x, "band 3;"));
        show("kind of the fault", x.fault(0));
        show("place of the fault", x.fault(1));
        show("users, as it was ahead of that text", x.count(0));
        try {
            x.user(3, 4);
        } catch (IndexOutOfBoundsException e) {
            show("users are numbered below", x.count(0));
        }
    }
}
