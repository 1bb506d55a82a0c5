import java.util.ArrayDeque;
import java.util.ArrayList;
import java.util.Arrays;
import java.util.Comparator;
import java.util.Deque;
import java.util.HashMap;
import java.util.HashSet;
import java.util.List;
import java.util.Map;
import java.util.NoSuchElementException;
import java.util.Set;
import java.util.function.Consumer;
import java.util.regex.Matcher;
import java.util.regex.Pattern;

/**
 * The document once more, as slow and as literal as can be, and written another way than the program: ModelTest
 * compares the two. Nothing here is shared with the program.
 */
final class Model {
    static final class Fault extends Exception {
        private static final long serialVersionUID = 1L;
        final int kind;
        final int place;

        Fault(int kind, int place) {
            this.kind = kind;
            this.place = place;
        }
    }

    static final class User implements Cloneable {
        String name;
        int site;
        int power;
        int low;
        int high;
        int slots = 255;
        int channel;

        User copy() {
            User u = new User();
            u.name = name;
            u.site = site;
            u.power = power;
            u.low = low;
            u.high = high;
            u.slots = slots;
            u.channel = channel;
            return u;
        }
    }

    record Product(int site, int sort, int a, int b, int c, int channel, int level, int slots, Set<Integer> hits) {
        Set<Integer> members() {
            Set<Integer> all = new HashSet<>(Arrays.asList(a, b));
            if (c >= 0) {
                all.add(c);
            }
            return all;
        }
    }

    static final class World {
        int band = 30;
        int guard = 0;
        int space = 1;
        int orders = 2;
        int seed = 0;
        int[] loss = {5, 10, 20};
        List<User> users = new ArrayList<>();
        Set<Integer> blocked = new HashSet<>();
        Map<Set<Integer>, Integer> links = new HashMap<>();

        World copy() {
            World w = new World();
            w.band = band;
            w.guard = guard;
            w.space = space;
            w.orders = orders;
            w.seed = seed;
            w.loss = loss.clone();
            for (User u : users) {
                w.users.add(u.copy());
            }
            w.blocked = new HashSet<>(blocked);
            w.links = new HashMap<>(links);
            return w;
        }

        List<Product> products() {
            List<Product> all = new ArrayList<>();
            int n = users.size();
            for (int a = 0; a < n; a++) {
                for (int b = 0; b < n; b++) {
                    if (a < b) {
                        mix(all, 0, 2, new int[] {a, b}, new int[] {1, 1});
                    }
                    mix(all, 1, 2, new int[] {a, b}, new int[] {1, -1});
                    mix(all, 2, 3, new int[] {a, b}, new int[] {2, -1});
                    mix(all, 4, 5, new int[] {a, b}, new int[] {3, -2});
                    for (int c = 0; c < n; c++) {
                        if (a < b) {
                            mix(all, 3, 3, new int[] {a, b, c}, new int[] {1, 1, -1});
                        }
                        mix(all, 5, 5, new int[] {a, b, c}, new int[] {2, 1, -2});
                    }
                }
            }
            all.sort(Comparator.comparingInt(Product::site).thenComparingInt(Product::sort)
                    .thenComparingInt(Product::a).thenComparingInt(Product::b).thenComparingInt(Product::c));
            return all;
        }

        private void mix(List<Product> all, int sort, int order, int[] who, int[] times) {
            if ((orders & (order == 2 ? 1 : order == 3 ? 2 : 4)) == 0) {
                return;
            }
            Set<Integer> members = new HashSet<>();
            int slots = 255;
            int sum = 0;
            int level = -loss[order == 2 ? 0 : order == 3 ? 1 : 2];
            for (int i = 0; i < who.length; i++) {
                User u = users.get(who[i]);
                if (!members.add(who[i]) || u.channel == 0 || u.site != users.get(who[0]).site) {
                    return;
                }
                slots &= u.slots;
                sum += times[i] * u.channel;
                level += Math.abs(times[i]) * u.power;
            }
            if (slots == 0 || sum < 1 || sum > band) {
                return;
            }
            int site = users.get(who[0]).site;
            Product raw = new Product(site, sort, who[0], who[1], who.length > 2 ? who[2] : -2, sum, level, slots,
                    new HashSet<>());
            for (int v = 0; v < users.size(); v++) {
                if (near(raw, v) <= guard) {
                    raw.hits().add(v);
                }
            }
            all.add(raw);
        }

        /** How far from a product a user is that it could hit; a great number: it couldn't. */
        int near(Product p, int v) {
            User u = users.get(v);
            if (p.level() < 0 || u.channel == 0 || p.members().contains(v) || (u.slots & p.slots()) == 0) {
                return 1000;
            }
            if (u.site != p.site()) {
                Integer link = links.get(Set.of(u.site, p.site()));
                if (link == null || p.level() - link < 0) {
                    return 1000;
                }
            }
            return Math.abs(u.channel - p.channel());
        }

        int hitCount() {
            int sum = 0;
            for (Product p : products()) {
                sum += p.hits().size();
            }
            return sum;
        }

        boolean crowd(int i, int j) {
            User a = users.get(i);
            User b = users.get(j);
            return i != j && a.site == b.site && a.channel != 0 && b.channel != 0 && (a.slots & b.slots) != 0
                    && Math.abs(a.channel - b.channel) < space;
        }

        int couples() {
            int sum = 0;
            for (int i = 0; i < users.size(); i++) {
                for (int j = i + 1; j < users.size(); j++) {
                    sum += crowd(i, j) ? 1 : 0;
                }
            }
            return sum;
        }

        boolean right(int i) {
            User u = users.get(i);
            return u.channel != 0 && u.low <= u.channel && u.channel <= u.high && !blocked.contains(u.channel);
        }

        boolean clean() {
            for (int i = 0; i < users.size(); i++) {
                if (users.get(i).channel != 0 && !right(i)) {
                    return false;
                }
            }
            return couples() == 0 && hitCount() == 0;
        }

        boolean fits(int i, int channel) {
            World w = copy();
            w.users.get(i).channel = channel;
            return w.clean();
        }

        List<Integer> fitting(int i) {
            List<Integer> all = new ArrayList<>();
            for (int c = 1; c <= band; c++) {
                if (fits(i, c)) {
                    all.add(c);
                }
            }
            return all;
        }

        int having() {
            int bits = 0;
            for (int i = 0; i < users.size(); i++) {
                bits |= users.get(i).channel != 0 ? 1 << i : 0;
            }
            return bits;
        }

        int lacking() {
            return (1 << users.size()) - 1 - having();
        }

        int made(int i) {
            int sum = 0;
            for (Product p : products()) {
                sum += p.members().contains(i) ? p.hits().size() : 0;
            }
            return sum;
        }

        int worst() {
            int best = -2;
            int most = 0;
            for (int i = 0; i < users.size(); i++) {
                if (made(i) > most) {
                    most = made(i);
                    best = i;
                }
            }
            return best;
        }

        int trouble() {
            return hitCount() + couples();
        }
    }

    /** SEARCH by recursion. */
    static final class Seeker {
        final World world;
        int looks;
        boolean gaveUp;

        Seeker(World world) {
            this.world = world;
        }

        /** 0 found, and the world has it; -2, -3. */
        int run(int set) {
            List<Integer> who = new ArrayList<>();
            for (int i = 0; i < world.users.size(); i++) {
                if ((set >> i & 1) != 0) {
                    who.add(i);
                    world.users.get(i).channel = 0;
                }
            }
            if (who.isEmpty()) {
                return world.clean() ? 0 : -2;
            }
            if (from(who, 0)) {
                return 0;
            }
            return gaveUp ? -3 : -2;
        }

        private boolean from(List<Integer> who, int depth) {
            if (depth == who.size()) {
                return true;
            }
            User u = world.users.get(who.get(depth));
            for (int c = u.low; c <= u.high; c++) {
                if (looks == 600) {
                    gaveUp = true;
                    u.channel = 0;
                    return false;
                }
                looks++;
                if (world.fits(who.get(depth), c)) {
                    u.channel = c;
                    if (from(who, depth + 1)) {
                        return true;
                    }
                    u.channel = 0;
                    if (gaveUp) {
                        return false;
                    }
                }
            }
            return false;
        }
    }

    World world = new World();
    private final StringBuilder tape = new StringBuilder();
    private int faultKind = 0;
    private int faultPlace = -1;
    private World image = null;
    private final Deque<World> past = new ArrayDeque<>();

    // ---- text

    int feed(int... five) {
        if (tape.length() + 20 > 700) {
            return -1;
        }
        for (int x : five) {
            for (int i = 3; i >= 0; i--) {
                tape.append((char) (x >>> 8 * i & 255));
            }
        }
        return tape.length();
    }

    private static final Set<String> LANGUAGE = Set.of("band", "guard", "space", "orders", "loss", "user", "fixed",
            "block", "link", "slots", "seed");
    private static final Pattern TOKEN = Pattern.compile("[a-z]+|[0-9]+|[^a-z0-9\n ]");

    record Token(String text, int place) {
    }

    private List<Token> tokens;
    private int next;
    private int end;

    private Token peek() {
        return next < tokens.size() ? tokens.get(next) : new Token("", end);
    }

    private int number(int least, int most) throws Fault {
        Token t = peek();
        if (!t.text.matches("[0-9]+")) {
            throw new Fault(1, t.place);
        }
        java.math.BigInteger value = new java.math.BigInteger(t.text);
        if (value.bitLength() > 30 || value.intValue() < least || value.intValue() > most) {
            throw new Fault(2, t.place);
        }
        next++;
        return value.intValue();
    }

    private Token name() throws Fault {
        Token t = peek();
        if (!t.text.matches("[a-z]{1,6}") || LANGUAGE.contains(t.text)) {
            throw new Fault(1, t.place);
        }
        next++;
        return t;
    }

    private static int find(World w, String name) {
        for (int i = 0; i < w.users.size(); i++) {
            if (w.users.get(i).name.equals(name)) {
                return i;
            }
        }
        return -1;
    }

    int text(int n) {
        if (n < 0 || n > tape.length()) {
            return -2;
        }
        String text = tape.substring(0, n);
        tape.setLength(0);
        tokens = new ArrayList<>();
        next = 0;
        end = n;
        Matcher m = TOKEN.matcher(text);
        while (m.find()) {
            tokens.add(new Token(m.group(), m.start()));
        }
        try {
            World w = new World();
            int lines = parse(w);
            faultKind = 0;
            faultPlace = -1;
            world = w;
            image = null;
            past.clear();
            return lines;
        } catch (Fault f) {
            faultKind = f.kind;
            faultPlace = f.place;
            return -1;
        }
    }

    private int parse(World w) throws Fault {
        int lines = 0;
        int blocks = 0;
        Set<String> told = new HashSet<>();
        while (next < tokens.size()) {
            Token word = peek();
            if (!LANGUAGE.contains(word.text)) {
                throw new Fault(1, word.place);
            }
            if (word.text.equals("band") && (told.contains("user") || told.contains("block"))) {
                throw new Fault(1, word.place);
            }
            if (word.text.equals("user") && w.users.size() == 6 || word.text.equals("block") && blocks == 6) {
                throw new Fault(2, word.place);
            }
            if (!told.add(word.text) && List.of("band", "guard", "space", "orders", "loss", "seed")
                    .contains(word.text)) {
                throw new Fault(3, word.place);
            }
            next++;
            switch (word.text) {
                case "band" -> w.band = number(4, 60);
                case "guard" -> w.guard = number(0, 5);
                case "space" -> w.space = number(1, 20);
                case "orders" -> w.orders = number(0, 7);
                case "seed" -> w.seed = number(0, 99999);
                case "loss" -> w.loss = new int[] {number(0, 99), number(0, 99), number(0, 99)};
                case "user" -> {
                    Token name = name();
                    if (find(w, name.text) >= 0) {
                        throw new Fault(3, name.place);
                    }
                    User u = new User();
                    u.name = name.text;
                    u.site = number(0, 2);
                    u.power = number(0, 30);
                    u.low = number(1, w.band);
                    u.high = number(u.low, w.band);
                    w.users.add(u);
                }
                case "fixed", "slots" -> {
                    Token name = name();
                    int i = find(w, name.text);
                    if (i < 0) {
                        throw new Fault(4, name.place);
                    }
                    if (!told.add(word.text + " " + name.text)) {
                        throw new Fault(3, name.place);
                    }
                    if (word.text.equals("fixed")) {
                        w.users.get(i).channel = number(1, w.band);
                    } else {
                        w.users.get(i).slots = number(1, 255);
                    }
                }
                case "block" -> {
                    blocks++;
                    int first = number(1, w.band);
                    int last = number(first, w.band);
                    for (int c = first; c <= last; c++) {
                        w.blocked.add(c);
                    }
                }
                default -> {
                    int one = number(0, 2);
                    int place = peek().place;
                    int other = number(0, 2);
                    if (one == other) {
                        throw new Fault(2, place);
                    }
                    if (w.links.containsKey(Set.of(one, other))) {
                        throw new Fault(3, place);
                    }
                    w.links.put(Set.of(one, other), number(0, 99));
                }
            }
            if (!peek().text.equals(";")) {
                throw new Fault(1, peek().place);
            }
            next++;
            lines++;
        }
        return lines;
    }

    // ---- the calls, by name

    private boolean isUser(int i) {
        return i >= 0 && i < world.users.size();
    }

    private boolean isChannel(int c) {
        return c >= 1 && c <= world.band;
    }

    private void change(Consumer<World> how) {
        past.push(world.copy());
        if (past.size() > 20) {
            past.removeLast();
        }
        how.accept(world);
    }

    int call(String what, int[] x) {
        switch (what) {
            case "feed":
                return feed(x);
            case "text":
                return text(x[0]);
            case "fault":
                return x[0] == 0 ? faultKind : x[0] == 1 ? faultPlace : -1;
            case "named":
                return named(x[0]);
            case "tune", "power", "slots", "block", "complete", "mend", "undo", "keep", "back":
                return changing(what, x);
            case "user":
                return user(x[0], x[1]);
            case "blocked":
                return !isChannel(x[0]) ? -1 : world.blocked.contains(x[0]) ? 1 : 0;
            case "count":
                return count(x[0]);
            case "linked":
                return x[0] < 0 || x[0] > 2 || x[1] < 0 || x[1] > 2 || x[0] == x[1] ? -1
                        : world.links.getOrDefault(Set.of(x[0], x[1]), -2);
            case "products", "product", "bySort", "hits", "hitBy", "loudest", "when", "clearance", "worst", "rank":
                return aboutProducts(what, x);
            case "crowds", "nearest", "mostSpace", "clean", "fits", "free", "freeAt", "spare":
                return aboutFits(what, x);
            case "ifTuned", "quietest", "bestSwap", "mostPower", "mostGuard", "turned", "left":
                return aboutChanges(what, x);
            default:
                return aboutPlans(what, x);
        }
    }

    private int named(int letters) {
        for (int i = 0; i < world.users.size(); i++) {
            int packed = 0;
            String name = world.users.get(i).name;
            for (int k = 0; k < 6; k++) {
                packed = packed * 32 + (k < name.length() ? name.charAt(k) - 'a' + 1 : 0);
            }
            if (packed == letters) {
                return i;
            }
        }
        return -1;
    }

    private int user(int i, int what) {
        if (!isUser(i)) {
            throw new IndexOutOfBoundsException();
        }
        if (what < 0 || what > 6) {
            throw new NoSuchElementException();
        }
        User u = world.users.get(i);
        return new int[] {u.site, u.power, u.low, u.high, u.channel, world.right(i) ? 1 : 0, u.slots}[what];
    }

    private int count(int what) {
        int[] all = {world.users.size(), world.band, world.guard, world.space, world.orders, world.blocked.size(),
            Integer.bitCount(world.having()), past.size(), tape.length()};
        return what < 0 || what >= all.length ? -1 : all[what];
    }

    private int changing(String what, int[] x) {
        switch (what) {
            case "tune": {
                if (!isUser(x[0]) || x[1] != 0 && !isChannel(x[1])) {
                    return -1;
                }
                int before = world.users.get(x[0]).channel;
                change(w -> w.users.get(x[0]).channel = x[1]);
                return before;
            }
            case "power": {
                if (!isUser(x[0]) || x[1] < 0 || x[1] > 30) {
                    return -1;
                }
                int before = world.users.get(x[0]).power;
                change(w -> w.users.get(x[0]).power = x[1]);
                return before;
            }
            case "slots": {
                if (!isUser(x[0]) || x[1] < 1 || x[1] > 255) {
                    return -1;
                }
                int before = world.users.get(x[0]).slots;
                change(w -> w.users.get(x[0]).slots = x[1]);
                return before;
            }
            case "block":
                if (!isChannel(x[0])) {
                    return -1;
                }
                change(w -> {
                    if (!w.blocked.remove(x[0])) {
                        w.blocked.add(x[0]);
                    }
                });
                return world.blocked.contains(x[0]) ? 1 : 0;
            case "complete": {
                Seeker s = new Seeker(world.copy());
                int r = s.run(world.lacking());
                if (r < 0) {
                    return r;
                }
                if (s.looks > 0) {
                    change(w -> { });
                    world = s.world;
                }
                return s.looks;
            }
            case "mend": {
                World[] found = new World[1];
                int set = mend(found);
                if (set > 0) {
                    change(w -> { });
                    world = found[0];
                }
                return set;
            }
            case "undo":
                if (past.isEmpty()) {
                    return -1;
                }
                world = past.pop();
                return past.size();
            case "keep":
                image = world.copy();
                return Integer.bitCount(world.having());
            default:
                if (image == null) {
                    return -1;
                }
                world = image.copy();
                past.clear();
                return Integer.bitCount(world.having());
        }
    }

    private int mend(World[] found) {
        if (world.clean()) {
            return 0;
        }
        List<Integer> sets = new ArrayList<>();
        for (int set = 1; set < 64; set++) {
            if ((set & world.having()) == set) {
                sets.add(set);
            }
        }
        sets.sort(Comparator.<Integer>comparingInt(Integer::bitCount).thenComparingInt(s -> s));
        for (int set : sets) {
            Seeker s = new Seeker(world.copy());
            if (s.run(set) == 0) {
                found[0] = s.world;
                return set;
            }
        }
        return -2;
    }

    private static int bits(Set<Integer> set) {
        int bits = 0;
        for (int i : set) {
            bits |= 1 << i;
        }
        return bits;
    }

    private int aboutProducts(String what, int[] x) {
        List<Product> all = world.products();
        List<Integer> hitting = new ArrayList<>();
        for (int k = 0; k < all.size() && x.length > 0; k++) {
            if (all.get(k).hits().contains(x[0])) {
                hitting.add(k);
            }
        }
        switch (what) {
            case "products":
                return x[0] == 0 ? all.size() : x[0] == 1 ? (int) all.stream().filter(p -> p.level() >= 0).count()
                        : x[0] == 2 ? world.hitCount() : x[0] == 3 ? world.couples() : -1;
            case "product": {
                if (x[0] < 0 || x[0] >= all.size() || x[1] < 0 || x[1] > 6) {
                    return -1000;
                }
                Product p = all.get(x[0]);
                return new int[] {p.sort(), p.a(), p.b(), p.c(), p.channel(), p.level(), bits(p.hits())}[x[1]];
            }
            case "bySort":
                if (x[0] < 0 || x[0] > 5 || x[1] < 0 || x[1] > 2) {
                    return -1;
                }
                return all.stream().filter(p -> p.sort() == x[0])
                        .mapToInt(p -> x[1] == 0 ? 1 : x[1] == 1 ? p.level() >= 0 ? 1 : 0 : p.hits().size()).sum();
            case "hits":
                return !isUser(x[0]) ? -1 : world.users.get(x[0]).channel == 0 ? -2 : hitting.size();
            case "hitBy":
                return !isUser(x[0]) || x[1] < 0 ? -1 : x[1] >= hitting.size() ? -2 : hitting.get(x[1]);
            case "loudest": {
                int best = -2;
                for (int k = all.size() - 1; k >= 0; k--) {
                    if (!all.get(k).hits().isEmpty() && (best < 0 || all.get(k).level() >= all.get(best).level())) {
                        best = k;
                    }
                }
                return best;
            }
            case "when": {
                if (!isUser(x[0])) {
                    return -1;
                }
                int slots = 0;
                for (int k : hitting) {
                    slots |= all.get(k).slots() & world.users.get(x[0]).slots;
                }
                return slots;
            }
            case "clearance":
                if (!isUser(x[0])) {
                    return -1;
                }
                int least = all.stream().mapToInt(p -> world.near(p, x[0])).min().orElse(1000);
                return least >= 1000 ? -2 : least;
            case "worst":
                return world.worst();
            default: {
                List<Integer> order = new ArrayList<>();
                for (int i = 0; i < world.users.size(); i++) {
                    order.add(i);
                }
                order.sort(Comparator.comparingInt(i -> -world.made(i)));
                return x[0] < 0 || x[0] >= order.size() ? -1 : order.get(x[0]);
            }
        }
    }

    private int aboutFits(String what, int[] x) {
        if (what.equals("clean")) {
            return world.clean() ? 1 : 0;
        }
        if (what.equals("mostSpace")) {
            int best = -2;
            for (int space = 1; space <= 20; space++) {
                World w = world.copy();
                w.space = space;
                best = w.couples() == 0 ? space : best;
            }
            return best;
        }
        if (!isUser(x[0])) {
            return -1;
        }
        switch (what) {
            case "crowds": {
                Set<Integer> set = new HashSet<>();
                for (int j = 0; j < world.users.size(); j++) {
                    if (world.crowd(x[0], j)) {
                        set.add(j);
                    }
                }
                return bits(set);
            }
            case "nearest": {
                User u = world.users.get(x[0]);
                int best = -2;
                for (int j = world.users.size() - 1; j >= 0; j--) {
                    User v = world.users.get(j);
                    if (j != x[0] && v.site == u.site && v.channel != 0 && u.channel != 0 && (best < 0
                            || Math.abs(v.channel - u.channel)
                            <= Math.abs(world.users.get(best).channel - u.channel))) {
                        best = j;
                    }
                }
                return best;
            }
            case "fits":
                return !isChannel(x[1]) ? -1 : world.fits(x[0], x[1]) ? 1 : 0;
            case "free":
                return world.fitting(x[0]).size();
            case "freeAt": {
                List<Integer> all = world.fitting(x[0]);
                return x[1] < 0 ? -1 : x[1] >= all.size() ? -2 : all.get(x[1]);
            }
            default: {
                int sum = 0;
                for (int c : world.fitting(x[0])) {
                    World w = world.copy();
                    w.users.get(x[0]).channel = c;
                    sum += new Seeker(w).run(w.lacking()) == 0 ? 1 : 0;
                }
                return sum;
            }
        }
    }

    private int aboutChanges(String what, int[] x) {
        switch (what) {
            case "ifTuned": {
                if (!isUser(x[0]) || x[1] != 0 && !isChannel(x[1])) {
                    return -1;
                }
                World w = world.copy();
                w.users.get(x[0]).channel = x[1];
                return w.trouble();
            }
            case "quietest": {
                if (!isUser(x[0])) {
                    return -1;
                }
                int best = -2;
                int least = Integer.MAX_VALUE;
                for (int c = world.users.get(x[0]).low; c <= world.users.get(x[0]).high; c++) {
                    World w = world.copy();
                    w.users.get(x[0]).channel = c;
                    if (!world.blocked.contains(c) && w.trouble() < least) {
                        best = c;
                        least = w.trouble();
                    }
                }
                return best;
            }
            case "bestSwap": {
                int best = -2;
                int least = world.trouble();
                for (int i = 0; i < world.users.size(); i++) {
                    for (int j = i + 1; j < world.users.size(); j++) {
                        World w = world.copy();
                        w.users.get(i).channel = world.users.get(j).channel;
                        w.users.get(j).channel = world.users.get(i).channel;
                        if (w.users.get(i).channel != 0 && w.users.get(j).channel != 0 && w.trouble() < least) {
                            best = 6 * i + j;
                            least = w.trouble();
                        }
                    }
                }
                return best;
            }
            case "mostPower": {
                if (!isUser(x[0])) {
                    return -1;
                }
                int best = -2;
                for (int p = 0; p <= 30; p++) {
                    World w = world.copy();
                    w.users.get(x[0]).power = p;
                    best = w.hitCount() == 0 ? p : best;
                }
                return best;
            }
            case "mostGuard": {
                int best = -2;
                for (int g = 0; g <= 5; g++) {
                    World w = world.copy();
                    w.guard = g;
                    best = w.hitCount() == 0 ? g : best;
                }
                return best;
            }
            default: {
                World w = world.copy();
                int steps = 0;
                while (w.hitCount() > 0 && w.users.get(w.worst()).power > 0) {
                    w.users.get(w.worst()).power--;
                    steps++;
                }
                return what.equals("left") ? w.hitCount() : x[0] == -1 ? steps
                        : isUser(x[0]) ? w.users.get(x[0]).power : -2;
            }
        }
    }

    private int aboutPlans(String what, int[] x) {
        switch (what) {
            case "planned": {
                if (!isUser(x[0])) {
                    return -1;
                }
                if (world.users.get(x[0]).channel != 0) {
                    return -2;
                }
                Seeker s = new Seeker(world.copy());
                int r = s.run(world.lacking());
                return r == 0 ? s.world.users.get(x[0]).channel : r;
            }
            case "mended":
                return mend(new World[1]);
            case "leastBand":
                for (int n = 4; n <= 60; n++) {
                    World w = world.copy();
                    w.band = n;
                    for (int c = n + 1; c <= 60; c++) {
                        w.blocked.add(c);
                    }
                    for (User u : w.users) {
                        u.high = Math.min(u.high, n);
                        u.channel = 0;
                    }
                    if (new Seeker(w).run(w.lacking()) == 0) {
                        return n;
                    }
                }
                return -2;
            case "grown":
                return grown(x[0], x[1], x[2], x[3]);
            case "chance":
                return chance(x[0], x[1], x[2]);
            default:
                throw new IllegalArgumentException(what);
        }
    }

    private static int grown(int orders, int guard, int space, int i) {
        if (orders < 0 || orders > 7 || guard < 0 || guard > 5 || space < 1 || space > 20 || i < 0) {
            return -1;
        }
        World w = new World();
        w.band = 60;
        w.orders = orders;
        w.guard = guard;
        w.space = space;
        for (int c = 1; c <= 60 && w.users.size() < 8; c++) {
            User u = new User();
            u.name = "x";
            u.power = 30;
            u.low = 1;
            u.high = 60;
            u.channel = c;
            w.users.add(u);
            if (!w.clean()) {
                w.users.remove(w.users.size() - 1);
            }
        }
        return i < w.users.size() ? w.users.get(i).channel : -2;
    }

    private int chance(int seed, int n, int what) {
        if (seed < -1 || n < 1 || n > 20 || what < 0 || what > 2) {
            return -1;
        }
        World w = world.copy();
        long last = seed == -1 ? world.seed : seed;
        int lost = 0;
        for (int t = 0; t < n; t++) {
            last = (last * 1103515245L + 12345L) % (1L << 31);
            int c = (int) (last / 65536 % w.band) + 1;
            w.blocked.add(c);
            for (int i = 0; i < w.users.size(); i++) {
                if (w.users.get(i).channel == c) {
                    lost++;
                    w.users.get(i).channel = 0;
                    new Seeker(w).run(1 << i);
                }
            }
        }
        return what == 0 ? Integer.bitCount(w.having()) : what == 1 ? lost : w.clean() ? 1 : 0;
    }
}
