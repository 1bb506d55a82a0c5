import java.util.ArrayList;
import java.util.List;

/** A run of calls on a new object, each with the answer that is due; the first wrong one ends it. */
final class Run {
    static final int BIG = Integer.MAX_VALUE;
    static final int SMALL = Integer.MIN_VALUE;
    private static final int CALLS_MOST = 512;

    static final class Wrong extends RuntimeException {
        private static final long serialVersionUID = 1L;

        Wrong(String message) {
            super(message);
        }
    }

    private final QuietChannels program = new QuietChannels();
    private final List<String> log = new ArrayList<>();

    /** On a new object, nothing told. */
    static Run fresh() {
        return new Run();
    }

    /** On an object that a text without a FAULT was told. */
    static Run on(String text) {
        Run run = new Run().feed(text);
        run.ask("text " + text.length());
        return run.due("fault 0", 0);
    }

    private static int number(String word) {
        return word.equals("MAX") ? BIG : word.equals("MIN") ? SMALL : Integer.parseInt(word);
    }

    private String answer(String call) {
        String[] words = call.split(" ");
        int[] x = new int[words.length - 1];
        for (int i = 0; i < x.length; i++) {
            x[i] = number(words[i + 1]);
        }
        String got = Calls.outcome(() -> Calls.ask(program, words[0], x));
        log.add(call + " -> " + got);
        if (log.size() > CALLS_MOST) {
            throw new Wrong("the test makes more calls than an object is used for");
        }
        return got;
    }

    int ask(String call) {
        return Integer.parseInt(answer(call));
    }

    private Run compare(String call, String want) {
        String got = answer(call);
        if (!got.equals(want)) {
            throw new Wrong(call + " answered " + got + ", due is " + want + ", at the end of " + log);
        }
        return this;
    }

    Run due(String call, int want) {
        return compare(call, Integer.toString(want));
    }

    Run thrown(String exception, String... calls) {
        for (String call : calls) {
            compare(call, "throws." + exception);
        }
        return this;
    }

    /** The answers to a call with a last argument first, first + 1, .. */
    Run rowFrom(int first, String call, int... want) {
        for (int i = 0; i < want.length; i++) {
            due(call + " " + (first + i), want[i]);
        }
        return this;
    }

    Run row(String call, int... want) {
        return rowFrom(0, call, want);
    }

    /** Which CHANNELS the USERS have. */
    Run channels(int... want) {
        for (int user = 0; user < want.length; user++) {
            due("user " + user + " 4", want[user]);
        }
        return this;
    }

    /** A call with each of the values in the place of its #: all answer the same, and nothing is changed by them. */
    Run refused(int want, String call, int... values) {
        String before = state();
        for (int value : values) {
            due(call.replace("#", Integer.toString(value)), want);
        }
        return unchanged(before);
    }

    /** A call that answers so and changes nothing. */
    Run idle(String call, int want) {
        String before = state();
        due(call, want);
        return unchanged(before);
    }

    private Run unchanged(String before) {
        String after = state();
        if (!after.equals(before)) {
            throw new Wrong("was " + before + " and is " + after + " at the end of " + log);
        }
        return this;
    }

    /** All that calls can change and that can be asked, but for the IMAGE and what an undo brings. */
    String state() {
        StringBuilder all = new StringBuilder("fault " + ask("fault 0") + " " + ask("fault 1") + ", count");
        for (int what = 0; what <= 8; what++) {
            all.append(' ').append(ask("count " + what));
        }
        int users = ask("count 0");
        for (int user = 0; user < users; user++) {
            all.append(", user");
            for (int what : new int[] {1, 4, 6}) {
                all.append(' ').append(ask("user " + user + " " + what));
            }
        }
        all.append(", blocked");
        int band = ask("count 1");
        for (int channel = 1; channel <= band; channel++) {
            all.append(ask("blocked " + channel) == 1 ? " " + channel : "");
        }
        return all.toString();
    }

    /** A text's bytes, and blanks behind them up to a feed's twenty. */
    Run feed(String text) {
        for (int at = 0; at < text.length(); at += 20) {
            StringBuilder call = new StringBuilder("feed");
            for (int i = 0; i < 20; i += 4) {
                int four = 0;
                for (int k = at + i; k < at + i + 4; k++) {
                    four = four << 8 | (k < text.length() ? text.charAt(k) : ' ');
                }
                call.append(' ').append(four);
            }
            ask(call.toString());
        }
        return this;
    }

    Run tell(String text, int want) {
        return feed(text).due("text " + text.length(), want);
    }
}
