import java.util.ArrayList;
import java.util.List;
import java.util.Random;

/** Random runs of calls, each answered by the program and by Model: every answer must be the same. */
public final class ModelTest {
    private static final String[] CALLS = {
        "fault 1", "named 1", "tune 2", "tune 2", "tune 2", "block 1", "power 2", "slots 2", "complete 0", "mend 0",
        "user 2", "blocked 1", "products 1", "product 2", "hits 1", "hitBy 2", "crowds 1", "clean 0", "fits 2",
        "free 1", "freeAt 2", "quietest 1", "planned 1", "mended 0", "leastBand 0", "grown 4", "worst 0", "ifTuned 2",
        "bySort 2", "loudest 0", "turned 1", "left 0", "bestSwap 0", "when 1", "clearance 1", "nearest 1",
        "mostSpace 0", "spare 1", "rank 1", "linked 2", "mostPower 1", "mostGuard 0", "chance 3", "undo 0", "keep 0",
        "back 0", "count 1"};

    private final Random random;
    private final QuietChannels program = new QuietChannels();
    private final Model model = new Model();
    private final List<String> log = new ArrayList<>();

    /** A loud run has many products that hit, a bare one few channels that are fixed and so long searches. */
    private final boolean loud;
    private final boolean bare;

    private ModelTest(long seed) {
        random = new Random(seed);
        loud = seed % 3 != 0;
        bare = seed % 4 == 1;
    }

    private void compare(String name, int... x) {
        String got = Calls.outcome(() -> Calls.ask(program, name, x));
        String due = Calls.outcome(() -> model.call(name, x));
        StringBuilder told = new StringBuilder(name);
        for (int v : x) {
            told.append(' ').append(v);
        }
        log.add(told + " -> " + got);
        if (!got.equals(due)) {
            throw new IllegalStateException("answered " + got + ", due is " + due + " at the end of " + log);
        }
    }

    private int from(int low, int high) {
        return low + random.nextInt(high - low + 1);
    }

    private boolean oneOf(int n) {
        return random.nextInt(n) == 0;
    }

    private int argument(String name, int place) {
        if (oneOf(40)) {
            int[] odd = {-3, -2, -1, 7, 31, 61, 256, Integer.MIN_VALUE, Integer.MAX_VALUE, 1 << 30};
            return odd[random.nextInt(odd.length)];
        }
        String key = name + place;
        switch (key) {
            case "grown0": return from(0, 7);
            case "grown1": return from(0, 5);
            case "grown2": return oneOf(3) ? from(1, 20) : from(1, 4);
            case "grown3": return from(0, 8);
            case "chance0": return oneOf(2) ? -1 : random.nextInt() & 0x7fffffff;
            case "chance1": return from(1, 20);
            case "chance2": return from(0, 2);
            case "linked0": case "linked1": return from(0, 2);
            case "count0": return from(0, 8);
            case "fault0": return from(0, 1);
            case "named0": return from(1, 7) << 25;
            case "products0": return from(0, 3);
            case "product0": return oneOf(2) ? from(0, 12) : from(0, 200);
            case "product1": case "user1": return from(0, 6);
            case "bySort0": return from(0, 5);
            case "bySort1": return from(0, 2);
            case "hitBy1": return from(0, 5);
            case "freeAt1": return from(0, 25);
            case "power1": return from(loud ? 8 : 0, 30);
            case "slots1": return loud ? 255 - (1 << from(0, 7)) : from(1, 255);
            case "tune1": return oneOf(4) ? 0 : from(1, model.world.band);
            case "ifTuned1": return from(0, model.world.band);
            case "fits1": case "block0": case "blocked0": return from(1, model.world.band);
            case "turned0": return from(-1, Math.max(0, model.world.users.size() - 1));
            default: return from(0, Math.max(0, model.world.users.size() - 1));
        }
    }

    private String blank() {
        return oneOf(12) ? "\n" : oneOf(20) ? "  " : " ";
    }

    private int beyond(int low, int high, boolean wild) {
        return wild && oneOf(30) ? Math.max(0, oneOf(2) ? low - 1 : high + 1) : from(low, high);
    }

    /** A text; a wild one is likely to have faults. */
    private String someText(boolean wild) {
        StringBuilder text = new StringBuilder();
        int band = 30;
        if (oneOf(2)) {
            band = beyond(4, oneOf(2) ? 16 : 60, wild);
            text.append("band").append(blank()).append(band).append(";");
        }
        int users = oneOf(loud ? 9 : 4) ? from(0, 3) : from(3, wild && oneOf(8) ? 7 : 6);
        List<String> lines = new ArrayList<>();
        addSettings(lines, wild);
        boolean oneSite = loud || oneOf(2);
        String names = "abcdefg";
        for (int i = 0; i < users; i++) {
            int low = oneOf(2) ? 1 : beyond(1, band, wild);
            int high = low > band ? low : bare || oneOf(2) ? band : from(low, band);
            String name = oneOf(6) && wild ? "b" : "" + names.charAt(i);
            lines.add("user " + name + " " + (oneSite ? oneOf(6) ? 1 : 0 : beyond(0, 2, wild)) + " "
                    + beyond(loud ? 10 : 0, 30, wild) + " " + low
                    + blank() + beyond(low, Math.max(low, high), wild));
            if (bare ? oneOf(6) : !oneOf(3)) {
                lines.add("fixed " + name + blank() + beyond(1, band, wild));
            }
            if (oneOf(loud ? 12 : 4)) {
                lines.add("slots " + name + blank() + beyond(1, 255, wild));
            }
        }
        for (int i = from(0, wild && oneOf(8) ? 7 : 2); i > 0; i--) {
            int first = beyond(1, band, wild);
            lines.add("block " + first + " " + beyond(first, Math.min(Math.max(first, band), first + 3), wild));
        }
        if (wild && oneOf(3) && !lines.isEmpty()) {
            lines.add(from(0, lines.size()), lines.get(random.nextInt(lines.size())));
        }
        for (String line : lines) {
            text.append(oneOf(9) ? "\n" : "").append(line).append(";");
        }
        if (wild && oneOf(3) && text.length() > 0) {
            spoil(text);
        }
        return text.toString();
    }

    private void addSettings(List<String> lines, boolean wild) {
        if (loud || oneOf(2)) {
            lines.add("orders " + beyond(loud ? 3 : 0, 7, wild));
        }
        if (oneOf(2)) {
            lines.add("guard " + beyond(0, oneOf(2) ? 1 : 5, wild));
        }
        if (oneOf(2)) {
            lines.add("space " + beyond(1, oneOf(2) ? 3 : 20, wild));
        }
        if (oneOf(2)) {
            int most = loud ? 40 : 99;
            lines.add("loss " + beyond(0, most, wild) + " " + beyond(0, most, wild) + blank() + beyond(0, most, wild));
        }
        if (oneOf(3)) {
            lines.add("seed " + beyond(0, 99999, wild));
        }
        int[][] links = {{0, 1}, {2, 1}, {0, 2}};
        for (int[] link : links) {
            if (oneOf(2)) {
                lines.add("link " + link[0] + " " + (wild && oneOf(9) ? link[0] : link[1]) + " " + beyond(0, 40, wild));
            }
        }
    }

    private void spoil(StringBuilder text) {
        int at = random.nextInt(text.length());
        String signs = "abz0197 ;\n-A{`/:\u00e9\0\t";
        switch (random.nextInt(3)) {
            case 0 -> text.deleteCharAt(at);
            case 1 -> text.insert(at, signs.charAt(random.nextInt(signs.length())));
            default -> text.setCharAt(at, signs.charAt(random.nextInt(signs.length())));
        }
    }

    private void tell(String text) {
        int feeds = Math.min(35, (text.length() + 19) / 20 + (oneOf(9) ? 1 : 0));
        for (int f = 0; f < feeds; f++) {
            int[] five = new int[5];
            for (int i = 0; i < 20; i++) {
                int at = 20 * f + i;
                five[i / 4] = five[i / 4] << 8 | (at < text.length() ? text.charAt(at) : ' ');
            }
            compare("feed", five);
        }
        int n = Math.min(text.length(), 20 * feeds);
        compare("text", oneOf(50) ? n + 21 : oneOf(50) ? n / 2 : n);
        compare("fault", 0);
        compare("fault", 1);
    }

    /** All that can be asked cheaply about one state; the program answers beyond its 512 calls as well. */
    private void survey() {
        int products = model.world.products().size();
        for (int k = -1; k <= products; k++) {
            for (int what = 0; what <= 6; what++) {
                compare("product", k, what);
            }
        }
        for (int k = 0; k < 18; k++) {
            compare("bySort", k % 6, k / 6);
        }
        for (int user = -1; user <= model.world.users.size(); user++) {
            for (String about : new String[] {"hits", "when", "clearance", "crowds", "nearest", "rank", "mostPower",
                "turned"}) {
                compare(about, user);
            }
            for (int k = 0; k < 4; k++) {
                compare("hitBy", user, k);
            }
        }
        for (String about : new String[] {"worst", "loudest", "left", "mostGuard", "mostSpace", "bestSwap"}) {
            compare(about);
        }
    }

    private void run(int calls) {
        tell(someText(false));
        survey();
        for (int i = 0; i < calls; i++) {
            String[] call = CALLS[random.nextInt(CALLS.length)].split(" ");
            int[] x = new int[Integer.parseInt(call[1])];
            for (int k = 0; k < x.length; k++) {
                x[k] = argument(call[0], k);
            }
            compare(call[0], x);
        }
        survey();
    }

    private void readTexts(int texts) {
        for (int i = 0; i < texts; i++) {
            tell(someText(true));
            for (int what = 0; what <= 8; what++) {
                compare("count", what);
            }
            for (int k = 0; k < model.world.users.size(); k++) {
                for (int what = 0; what <= 6; what++) {
                    compare("user", k, what);
                }
            }
            for (int k = 0; k < 3; k++) {
                compare("linked", k, (k + 1) % 3);
            }
            log.clear();
        }
    }

    public static void main(String[] args) {
        int runs = args.length > 0 ? Integer.parseInt(args[0]) : 250;
        long first = args.length > 1 ? Long.parseLong(args[1]) : 1;
        for (long seed = first; seed < first + runs; seed++) {
            new ModelTest(seed).run(60);
            new ModelTest(seed).readTexts(12);
        }
        System.out.println("ModelTest: " + runs + " runs, all answers as due");
    }
}
