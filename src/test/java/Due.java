/** What the tests by hand share: a text told to a new object, and answers compared with those that are due. */
final class Due {
    private final String test;
    private int asked = 0;
    private int wrong = 0;

    Due(String test) {
        this.test = test;
    }

    void same(String call, long got, long want) {
        asked++;
        if (got != want) {
            wrong++;
            System.out.println(test + ": " + call + " answered " + got + ", due is " + want);
        }
    }

    /** The answers to a call with the arguments 0, 1, .. one behind another. */
    void row(String call, int[] got, int... want) {
        same(call + " length", got.length, want.length);
        for (int i = 0; i < Math.min(got.length, want.length); i++) {
            same(call + " [" + i + "]", got[i], want[i]);
        }
    }

    void end() {
        System.out.println(test + ": " + asked + " answers, " + wrong + " wrong");
        if (wrong > 0) {
            System.exit(1);
        }
    }

    static void feed(QuietChannels x, String text) {
        for (int at = 0; at < text.length(); at += 20) {
            int[] five = new int[5];
            for (int i = 0; i < 20; i++) {
                five[i / 4] = five[i / 4] << 8 | (at + i < text.length() ? text.charAt(at + i) : ' ');
            }
            x.feed(five[0], five[1], five[2], five[3], five[4]);
        }
    }

    static int tell(QuietChannels x, String text) {
        feed(x, text);
        return x.text(text.length());
    }

    static QuietChannels told(String text) {
        QuietChannels x = new QuietChannels();
        if (tell(x, text) < 0) {
            throw new IllegalArgumentException("fault " + x.fault(0) + " at " + x.fault(1) + " of " + text);
        }
        return x;
    }

    /** The channels of the first n users. */
    static int[] channels(QuietChannels x, int n) {
        int[] all = new int[n];
        for (int user = 0; user < n; user++) {
            all[user] = x.user(user, 4);
        }
        return all;
    }
}
