import java.util.NoSuchElementException;

/**
 * Radio channels that keep quiet: which users may have which channels, so that no sum or difference of some
 * users' channels is heard on another user's. README.md tells how to use it.
 */
public final class QuietChannels {
    public static final int NONE = -1;

    private static final int NOTHING = -2;
    private static final int GAVE_UP = -3;
    private static final int FOUND = 0;
    private static final int NO_PRODUCT = NONE - 999;

    private static final int TAPE_MOST = 700;
    private static final int USERS_MOST = 6;
    private static final int BLOCKS_MOST = 6;
    private static final int SITES = 3;
    private static final int BAND_LEAST = 4;
    private static final int BAND_MOST = 60;
    private static final int GUARD_MOST = 5;
    private static final int SPACE_MOST = 20;
    private static final int ORDERS_MOST = 7;
    private static final int LOSS_MOST = 99;
    /** Of SITES that aren't linked: no LEVEL is so great. */
    private static final int UNLINKED = 1000;
    private static final int POWER_MOST = 30;
    private static final int SLOTS_MOST = 255;
    private static final int SEED_MOST = 99999;
    private static final int UNDO_MOST = 20;
    private static final int LOOKS_MOST = 600;
    private static final int ROW_MOST = 8;
    private static final int CHANCES_MOST = 20;
    private static final int TURNS_MOST = USERS_MOST * POWER_MOST;

    private static final int SORTS = 6;
    private static final int LOSSES = 3;
    /** How often, and with which sign, a, b and c are in a PRODUCT of each sort; 0: the sort has no c. */
    private static final int[] TIMES_A = {1, 1, 2, 1, 3, 2};
    private static final int[] TIMES_B = {1, -1, -1, 1, -2, 1};
    private static final int[] TIMES_C = {0, 0, 0, -1, 0, -2};
    /** The same without signs, as LEVELS count them; a's are never below 0. */
    private static final int[] WEIGHT_B = {1, 1, 1, 1, 2, 1};
    private static final int[] WEIGHT_C = {0, 0, 0, 1, 0, 2};
    /** The place of each sort's ORDER, both among the LOSSES and among the bits of orders. */
    private static final int[] ORDER_PLACE = {0, 0, 1, 1, 2, 2};

    /** What product() tells of a PRODUCT stands in columns of these numbers, its SLOTS in common behind them. */
    private static final int SORT = 0;
    private static final int A = 1;
    private static final int B = 2;
    private static final int C = 3;
    private static final int CHANNEL = 4;
    private static final int LEVEL = 5;
    private static final int STRUCK = 6;
    private static final int SHARED = 7;
    private static final int COLUMNS = 8;
    /** Of eight USERS of one SITE, by sorts: 28, 56, 56, 168, 56 and 336. */
    private static final int PRODUCTS_MOST = 700;

    private final int[] tape = new int[TAPE_MOST];
    private int tapeSize = 0;
    private int faultKind = 0;
    private int faultPlace = NONE;
    private Scene scene = new Scene();
    /** Where calls try what would be: each of them begins by copying or filling it. */
    private final Scene trial = new Scene();
    private final Products list = new Products();
    private final Search search = new Search();
    private final History history = new History();
    private final Image image = new Image();
    private boolean imageKept = false;

    public QuietChannels() {
    }

    // ---- the tape and the text

    public int feed(int a, int b, int c, int d, int e) {
        if (tapeSize + 20 > TAPE_MOST) {
            return NONE;
        }
        putBytes(a);
        putBytes(b);
        putBytes(c);
        putBytes(d);
        putBytes(e);
        return tapeSize;
    }

    private void putBytes(int number) {
        for (int shift = 24; shift >= 0 && tapeSize < TAPE_MOST; shift -= 8) {
            tape[tapeSize] = number >> shift & 255;
            tapeSize++;
        }
    }

    public int text(int n) {
        if (n < 0 || n > tapeSize) {
            return NOTHING;
        }
        Reader reader = new Reader(tape, n);
        reader.readAll();
        tapeSize = 0;
        faultKind = reader.fault;
        faultPlace = reader.place;
        if (faultKind != 0) {
            return NONE;
        }
        scene = reader.scene;
        imageKept = false;
        history.size = 0;
        return reader.lines;
    }

    public int fault(int what) {
        if (what == 0) {
            return faultKind;
        }
        return what == 1 ? faultPlace : NONE;
    }

    public int named(int letters) {
        return scene.userOfName(letters);
    }

    // ---- changes

    public int tune(int user, int channel) {
        if (!scene.isUser(user) || channel != 0 && !scene.isChannel(channel)) {
            return NONE;
        }
        history.push(scene);
        int before = scene.channel[user];
        scene.channel[user] = channel;
        return before;
    }

    public int block(int channel) {
        if (!scene.isChannel(channel)) {
            return NONE;
        }
        history.push(scene);
        scene.shut ^= 1L << channel;
        return scene.isShut(channel) ? 1 : 0;
    }

    public int power(int user, int n) {
        if (!scene.isUser(user) || n < 0 || n > POWER_MOST) {
            return NONE;
        }
        history.push(scene);
        int before = scene.strength[user];
        scene.strength[user] = n;
        return before;
    }

    public int slots(int user, int n) {
        if (!scene.isUser(user) || n < 1 || n > SLOTS_MOST) {
            return NONE;
        }
        history.push(scene);
        int before = scene.slotBits[user];
        scene.slotBits[user] = n;
        return before;
    }

    public int complete() {
        int result = planAll();
        if (result != FOUND) {
            return result;
        }
        if (search.looks > 0) {
            adoptTrial();
        }
        return search.looks;
    }

    public int mend() {
        int set = findMend();
        if (set > 0) {
            adoptTrial();
        }
        return set;
    }

    private void adoptTrial() {
        history.push(scene);
        scene.copyChannels(trial);
    }

    public int undo() {
        return history.pop(scene) ? history.size : NONE;
    }

    public int keep() {
        image.take(scene);
        imageKept = true;
        return Integer.bitCount(scene.tunedUsers());
    }

    public int back() {
        if (!imageKept) {
            return NONE;
        }
        image.giveTo(scene);
        history.size = 0;
        return Integer.bitCount(scene.tunedUsers());
    }

    // ---- what is told and what is so

    public int user(int user, int what) throws IndexOutOfBoundsException, NoSuchElementException {
        if (!scene.isUser(user)) {
            throw new IndexOutOfBoundsException("no such user");
        }
        switch (what) {
            case 0:
                return scene.site[user];
            case 1:
                return scene.strength[user];
            case 2:
                return scene.low[user];
            case 3:
                return scene.high[user];
            case 4:
                return scene.channel[user];
            case 5:
                return scene.isRight(user) ? 1 : 0;
            case 6:
                return scene.slotBits[user];
            default:
                throw new NoSuchElementException("no such what");
        }
    }

    public int blocked(int channel) {
        if (!scene.isChannel(channel)) {
            return NONE;
        }
        return scene.isShut(channel) ? 1 : 0;
    }

    public int linked(int one, int other) {
        if (one < 0 || one >= SITES || other < 0 || other >= SITES || one == other) {
            return NONE;
        }
        int loss = scene.linkLoss[one * SITES + other];
        return loss == UNLINKED ? NOTHING : loss;
    }

    public int count(int what) {
        switch (what) {
            case 0:
                return scene.users;
            case 1:
                return scene.band;
            case 2:
                return scene.guard;
            case 3:
                return scene.space;
            case 4:
                return scene.orders;
            case 5:
                return Long.bitCount(scene.shut);
            case 6:
                return Integer.bitCount(scene.tunedUsers());
            case 7:
                return history.size;
            case 8:
                return tapeSize;
            default:
                return NONE;
        }
    }

    // ---- products, and whom they hit

    public int products(int what) {
        list.fill(scene);
        switch (what) {
            case 0:
                return list.size;
            case 1:
                return list.sumOfSort(NONE, 1);
            case 2:
                return list.strikes;
            case 3:
                return scene.crowdedCouples();
            default:
                return NONE;
        }
    }

    public int product(int k, int what) {
        list.fill(scene);
        if (k < 0 || k >= list.size || what < SORT || what > STRUCK) {
            return NO_PRODUCT;
        }
        return list.column[what][k];
    }

    public int bySort(int sort, int what) {
        if (sort < 0 || sort >= SORTS || what < 0 || what > 2) {
            return NONE;
        }
        list.fill(scene);
        return list.sumOfSort(sort, what);
    }

    public int hits(int user) {
        if (!scene.isUser(user)) {
            return NONE;
        }
        if (scene.channel[user] == 0) {
            return NOTHING;
        }
        list.fill(scene);
        return list.strikesOn(user);
    }

    public int hitBy(int user, int k) {
        if (!scene.isUser(user) || k < 0) {
            return NONE;
        }
        list.fill(scene);
        return list.placeOfStrikeOn(user, k);
    }

    public int loudest() {
        list.fill(scene);
        return list.placeOfLoudest();
    }

    public int when(int user) {
        if (!scene.isUser(user)) {
            return NONE;
        }
        list.fill(scene);
        return list.slotsOfStrikesOn(user) & scene.slotBits[user];
    }

    public int clearance(int user) {
        if (!scene.isUser(user)) {
            return NONE;
        }
        list.fill(scene);
        return list.nearestDistance(scene, user);
    }

    public int worst() {
        list.fill(scene);
        return list.worstMaker(scene.users);
    }

    public int rank(int k) {
        if (k < 0 || k >= scene.users) {
            return NONE;
        }
        list.fill(scene);
        for (int user = 0; user < scene.users; user++) {
            if (list.makersAhead(user, scene.users) == k) {
                return user;
            }
        }
        return NONE;
    }

    // ---- how near users are to one another

    public int crowds(int user) {
        return scene.isUser(user) ? scene.crowdedBy(user) : NONE;
    }

    public int nearest(int user) {
        return scene.isUser(user) ? scene.nearestOfSite(user) : NONE;
    }

    public int mostSpace() {
        trial.copyFrom(scene);
        for (int space = SPACE_MOST; space >= 1; space--) {
            trial.space = space;
            if (trial.crowdedCouples() == 0) {
                return space;
            }
        }
        return NOTHING;
    }

    // ---- channels that fit

    public int clean() {
        return list.allClean(scene) ? 1 : 0;
    }

    public int fits(int user, int channel) {
        if (!scene.isUser(user) || !scene.isChannel(channel)) {
            return NONE;
        }
        trial.copyFrom(scene);
        return fitsOnTrial(user, channel) ? 1 : 0;
    }

    /** Leaves the USER with the CHANNEL on the trial scene, whether it FITS or not. */
    private boolean fitsOnTrial(int user, int channel) {
        trial.channel[user] = channel;
        return list.allClean(trial);
    }

    public int free(int user) {
        if (!scene.isUser(user)) {
            return NONE;
        }
        trial.copyFrom(scene);
        int fitting = 0;
        for (int channel = 1; channel <= scene.band; channel++) {
            if (fitsOnTrial(user, channel)) {
                fitting++;
            }
        }
        return fitting;
    }

    public int freeAt(int user, int k) {
        if (!scene.isUser(user) || k < 0) {
            return NONE;
        }
        trial.copyFrom(scene);
        int ahead = 0;
        for (int channel = 1; channel <= scene.band; channel++) {
            if (fitsOnTrial(user, channel)) {
                if (ahead == k) {
                    return channel;
                }
                ahead++;
            }
        }
        return NOTHING;
    }

    public int spare(int user) {
        if (!scene.isUser(user)) {
            return NONE;
        }
        int leaving = 0;
        for (int channel = 1; channel <= scene.band; channel++) {
            trial.copyFrom(scene);
            if (fitsOnTrial(user, channel) && search.seek(list, trial, trial.untunedUsers()) == FOUND) {
                leaving++;
            }
        }
        return leaving;
    }

    // ---- what a change would bring

    /** HITS and CROWDS together. */
    private int trouble(Scene where) {
        list.fill(where);
        return list.strikes + where.crowdedCouples();
    }

    public int ifTuned(int user, int channel) {
        if (!scene.isUser(user) || channel != 0 && !scene.isChannel(channel)) {
            return NONE;
        }
        trial.copyFrom(scene);
        trial.channel[user] = channel;
        return trouble(trial);
    }

    public int quietest(int user) {
        if (!scene.isUser(user)) {
            return NONE;
        }
        trial.copyFrom(scene);
        int best = NOTHING;
        int least = 0;
        for (int channel = scene.low[user]; channel <= scene.high[user]; channel++) {
            if (!scene.isShut(channel)) {
                trial.channel[user] = channel;
                int now = trouble(trial);
                if (best == NOTHING || now < least) {
                    best = channel;
                    least = now;
                }
            }
        }
        return best;
    }

    public int bestSwap() {
        int best = NOTHING;
        int least = trouble(scene);
        for (int one = 0; one < scene.users; one++) {
            for (int other = one + 1; other < scene.users; other++) {
                if (scene.channel[one] > 0 && scene.channel[other] > 0) {
                    int now = troubleOfSwap(one, other);
                    if (now < least) {
                        best = USERS_MOST * one + other;
                        least = now;
                    }
                }
            }
        }
        return best;
    }

    private int troubleOfSwap(int one, int other) {
        trial.copyFrom(scene);
        trial.channel[one] = scene.channel[other];
        trial.channel[other] = scene.channel[one];
        return trouble(trial);
    }

    public int mostPower(int user) {
        if (!scene.isUser(user)) {
            return NONE;
        }
        trial.copyFrom(scene);
        for (int strength = POWER_MOST; strength >= 0; strength--) {
            trial.strength[user] = strength;
            if (!list.anyStrike(trial)) {
                return strength;
            }
        }
        return NOTHING;
    }

    public int mostGuard() {
        trial.copyFrom(scene);
        for (int guard = GUARD_MOST; guard >= 0; guard--) {
            trial.guard = guard;
            if (!list.anyStrike(trial)) {
                return guard;
            }
        }
        return NOTHING;
    }

    public int turned(int user) {
        if (user != NONE && !scene.isUser(user)) {
            return NOTHING;
        }
        int steps = turnDown();
        return user == NONE ? steps : trial.strength[user];
    }

    public int left() {
        turnDown();
        return list.strikes;
    }

    /** Leaves the POWERS on the trial scene, and its PRODUCTS in the list. */
    private int turnDown() {
        trial.copyFrom(scene);
        list.fill(trial);
        int steps = 0;
        int user = list.worstMaker(trial.users);
        while (steps < TURNS_MOST && user >= 0 && trial.strength[user] > 0) {
            trial.strength[user]--;
            steps++;
            list.fill(trial);
            user = list.worstMaker(trial.users);
        }
        return steps;
    }

    // ---- plans

    /** Leaves on the trial scene what is found for all that have no CHANNEL. */
    private int planAll() {
        trial.copyFrom(scene);
        return search.seek(list, trial, trial.untunedUsers());
    }

    public int planned(int user) {
        if (!scene.isUser(user)) {
            return NONE;
        }
        if (scene.channel[user] > 0) {
            return NOTHING;
        }
        int result = planAll();
        return result == FOUND ? trial.channel[user] : result;
    }

    public int mended() {
        return findMend();
    }

    /** The set of MEND, and on the trial scene what is found for it. */
    private int findMend() {
        if (list.allClean(scene)) {
            return 0;
        }
        int tuned = scene.tunedUsers();
        for (int size = 1; size <= scene.users; size++) {
            for (int set = 1; set <= tuned; set++) {
                if (Integer.bitCount(set) == size && (set & ~tuned) == 0) {
                    trial.copyFrom(scene);
                    if (search.seek(list, trial, set) == FOUND) {
                        return set;
                    }
                }
            }
        }
        return NOTHING;
    }

    public int leastBand() {
        // Below a USER's LOW nothing is left for it, and no SEARCH finds.
        for (int band = Math.max(BAND_LEAST, scene.greatestLow()); band <= BAND_MOST; band++) {
            trial.copyFrom(scene);
            trial.narrowTo(band);
            if (search.seek(list, trial, trial.allUsers()) == FOUND) {
                return band;
            }
        }
        return NOTHING;
    }

    public int grown(int orders, int guard, int space, int i) {
        if (orders < 0 || orders > ORDERS_MOST || guard < 0 || guard > GUARD_MOST) {
            return NONE;
        }
        if (space < 1 || space > SPACE_MOST || i < 0) {
            return NONE;
        }
        if (i >= ROW_MOST) {
            return NOTHING;
        }
        trial.beginRow(orders, guard, space);
        int last = 0;
        for (int place = 0; place <= i && last >= 0; place++) {
            last = growTrial(place, last);
        }
        return last;
    }

    /** The ROW's next number, which is on the trial scene then; -2: there is none. */
    private int growTrial(int place, int last) {
        trial.users = place + 1;
        for (int channel = last + 1; channel <= BAND_MOST; channel++) {
            if (fitsOnTrial(place, channel)) {
                return channel;
            }
        }
        return NOTHING;
    }

    // ---- channels lost by chance

    public int chance(int seed, int n, int what) {
        if (seed < -1 || n < 1 || n > CHANCES_MOST || what < 0 || what > 2) {
            return NONE;
        }
        trial.copyFrom(scene);
        int last = seed == -1 ? scene.seed : seed;
        int losses = 0;
        for (int turn = 0; turn < n; turn++) {
            last = last * 1103515245 + 12345 & 0x7fffffff;
            losses += loseOnTrial((last >> 16) % Math.max(1, trial.band) + 1);
        }
        if (what == 0) {
            return Integer.bitCount(trial.tunedUsers());
        }
        if (what == 1) {
            return losses;
        }
        return list.allClean(trial) ? 1 : 0;
    }

    /** How many USERS lose the CHANNEL. */
    private int loseOnTrial(int channel) {
        trial.shut |= 1L << channel;
        int losses = 0;
        for (int user = 0; user < trial.users; user++) {
            if (trial.channel[user] == channel) {
                losses++;
                search.seek(list, trial, 1 << user);
            }
        }
        return losses;
    }

    /** What the TEXT tells, and what calls have made of it. Its rows have room for the USERS of a ROW, too. */
    private static final class Scene {
        int users = 0;
        int band = 30;
        int guard = 0;
        int space = 1;
        int orders = 2;
        int seed = 0;
        /** Bit c: CHANNEL c is BLOCKED. */
        long shut = 0;
        final int[] loss = {5, 10, 20};
        /** Of SITES one and other at one * SITES + other; of a SITE with itself there is none to take off. */
        final int[] linkLoss = {0, UNLINKED, UNLINKED, UNLINKED, 0, UNLINKED, UNLINKED, UNLINKED, 0};
        final int[] name = new int[ROW_MOST];
        final int[] site = new int[ROW_MOST];
        final int[] low = new int[ROW_MOST];
        final int[] high = new int[ROW_MOST];
        final int[] channel = new int[ROW_MOST];
        final int[] strength = new int[ROW_MOST];
        final int[] slotBits = new int[ROW_MOST];

        void copyFrom(Scene other) {
            users = other.users;
            band = other.band;
            guard = other.guard;
            space = other.space;
            orders = other.orders;
            seed = other.seed;
            shut = other.shut;
            System.arraycopy(other.loss, 0, loss, 0, LOSSES);
            System.arraycopy(other.linkLoss, 0, linkLoss, 0, SITES * SITES);
            System.arraycopy(other.name, 0, name, 0, ROW_MOST);
            System.arraycopy(other.site, 0, site, 0, ROW_MOST);
            System.arraycopy(other.low, 0, low, 0, ROW_MOST);
            System.arraycopy(other.high, 0, high, 0, ROW_MOST);
            System.arraycopy(other.strength, 0, strength, 0, ROW_MOST);
            System.arraycopy(other.slotBits, 0, slotBits, 0, ROW_MOST);
            copyChannels(other);
        }

        void copyChannels(Scene other) {
            System.arraycopy(other.channel, 0, channel, 0, ROW_MOST);
        }

        void narrowTo(int most) {
            band = most;
            for (int above = most + 1; above <= BAND_MOST; above++) {
                shut |= 1L << above;
            }
            for (int user = 0; user < users; user++) {
                high[user] = Math.min(high[user], most);
            }
        }

        int greatestLow() {
            int greatest = 0;
            for (int user = 0; user < users; user++) {
                greatest = Math.max(greatest, low[user]);
            }
            return greatest;
        }

        /** No USERS yet, but all that a ROW's USERS have beside a CHANNEL; without LOSS all is HEARD. */
        void beginRow(int rowOrders, int rowGuard, int rowSpace) {
            users = 0;
            band = BAND_MOST;
            guard = rowGuard;
            space = rowSpace;
            orders = rowOrders;
            shut = 0;
            for (int place = 0; place < LOSSES; place++) {
                loss[place] = 0;
            }
            for (int user = 0; user < ROW_MOST; user++) {
                site[user] = 0;
                low[user] = 1;
                high[user] = BAND_MOST;
                channel[user] = 0;
                strength[user] = 0;
                slotBits[user] = SLOTS_MOST;
            }
        }

        boolean isUser(int user) {
            return user >= 0 && user < users;
        }

        boolean isChannel(int number) {
            return number >= 1 && number <= band;
        }

        boolean isShut(int number) {
            return (shut >> number & 1L) != 0;
        }

        /** Without a CHANNEL no USER is: LOW is 1 or more. */
        boolean isRight(int user) {
            int own = channel[user];
            return own >= low[user] && own <= high[user] && !isShut(own);
        }

        boolean allRight() {
            for (int user = 0; user < users; user++) {
                if (channel[user] > 0 && !isRight(user)) {
                    return false;
                }
            }
            return true;
        }

        int userOfName(int letters) {
            for (int user = 0; user < users; user++) {
                if (name[user] == letters) {
                    return user;
                }
            }
            return NONE;
        }

        int allUsers() {
            return (1 << users) - 1;
        }

        int tunedUsers() {
            int bits = 0;
            for (int user = 0; user < users; user++) {
                if (channel[user] > 0) {
                    bits |= 1 << user;
                }
            }
            return bits;
        }

        int untunedUsers() {
            return allUsers() & ~tunedUsers();
        }

        boolean isTunedAt(int user, int place) {
            return channel[user] > 0 && site[user] == place;
        }

        boolean crowd(int one, int other) {
            return one != other && site[one] == site[other] && channel[one] > 0 && channel[other] > 0
                    && (slotBits[one] & slotBits[other]) != 0 && Math.abs(channel[one] - channel[other]) < space;
        }

        int crowdedBy(int user) {
            int bits = 0;
            for (int other = 0; other < users; other++) {
                if (crowd(user, other)) {
                    bits |= 1 << other;
                }
            }
            return bits;
        }

        int crowdedCouples() {
            int couples = 0;
            for (int one = 0; one < users; one++) {
                for (int other = one + 1; other < users; other++) {
                    couples += crowd(one, other) ? 1 : 0;
                }
            }
            return couples;
        }

        int nearestOfSite(int user) {
            int best = NOTHING;
            int least = 0;
            for (int other = 0; other < users && channel[user] > 0; other++) {
                if (other != user && isTunedAt(other, site[user])) {
                    int distance = Math.abs(channel[user] - channel[other]);
                    if (best < 0 || distance < least) {
                        best = other;
                        least = distance;
                    }
                }
            }
            return best;
        }

        boolean wantsSort(int sort) {
            return (orders >> ORDER_PLACE[sort] & 1) != 0;
        }

        /** Bit c: CHANNEL c is no farther than guard from one that a USER has. */
        long guardedChannels() {
            long bits = 0;
            for (int user = 0; user < users; user++) {
                int first = Math.max(1, channel[user] - guard);
                int last = channel[user] == 0 ? 0 : Math.min(BAND_MOST, channel[user] + guard);
                for (int number = first; number <= last; number++) {
                    bits |= 1L << number;
                }
            }
            return bits;
        }
    }

    /** The PRODUCTS of a scene, in their order. */
    private static final class Products {
        final int[][] column = new int[COLUMNS][PRODUCTS_MOST];
        int size = 0;
        /** All HITS of all PRODUCTS in the list. */
        int strikes = 0;
        /** The USERS with CHANNELS of the SITE that is at work. */
        private final int[] crew = new int[ROW_MOST];
        private int crewSize = 0;
        private long guarded = 0;
        private boolean untilStrike = false;

        void fill(Scene scene) {
            gather(scene, false);
        }

        boolean anyStrike(Scene scene) {
            gather(scene, true);
            return strikes > 0;
        }

        boolean allClean(Scene scene) {
            if (!scene.allRight() || scene.crowdedCouples() > 0) {
                return false;
            }
            gather(scene, true);
            return strikes == 0;
        }

        /** Lists all; or only what is near some USER, up to the first that HITS: so a SEARCH's LOOKS are cheap. */
        private void gather(Scene scene, boolean onlyFirstStrike) {
            size = 0;
            strikes = 0;
            untilStrike = onlyFirstStrike;
            guarded = scene.guardedChannels();
            for (int site = 0; site < SITES; site++) {
                gatherCrew(scene, site);
                for (int sort = 0; sort < SORTS; sort++) {
                    if (scene.wantsSort(sort)) {
                        gatherSort(scene, sort);
                    }
                }
            }
        }

        private void gatherCrew(Scene scene, int site) {
            crewSize = 0;
            for (int user = 0; user < scene.users && crewSize < ROW_MOST; user++) {
                if (scene.channel[user] > 0 && scene.site[user] == site) {
                    crew[crewSize] = user;
                    crewSize++;
                }
            }
        }

        /** Where a and b are alike in a sort, only a the lesser number counts: the other way is the same sum. */
        private void gatherSort(Scene scene, int sort) {
            boolean alike = TIMES_A[sort] == TIMES_B[sort];
            int thirds = TIMES_C[sort] == 0 ? 0 : crewSize;
            for (int i = 0; i < crewSize; i++) {
                for (int j = alike ? i + 1 : 0; j < crewSize; j++) {
                    if (untilStrike && strikes > 0) {
                        return;
                    }
                    if (i != j && thirds == 0) {
                        add(scene, sort, crew[i], crew[j], NOTHING);
                    }
                    for (int k = 0; k < thirds; k++) {
                        if (i != j && k != i && k != j) {
                            add(scene, sort, crew[i], crew[j], crew[k]);
                        }
                    }
                }
            }
        }

        /** Adds what is a PRODUCT; a c below 0: there is none in it. */
        private void add(Scene scene, int sort, int a, int b, int c) {
            int channel = TIMES_A[sort] * scene.channel[a] + TIMES_B[sort] * scene.channel[b]
                    + (c < 0 ? 0 : TIMES_C[sort] * scene.channel[c]);
            if (channel < 1 || channel > scene.band || size >= PRODUCTS_MOST) {
                return;
            }
            boolean near = (guarded >> channel & 1L) != 0;
            int shared = scene.slotBits[a] & scene.slotBits[b] & (c < 0 ? SLOTS_MOST : scene.slotBits[c]);
            if (shared == 0 || untilStrike && !near) {
                return;
            }
            column[SORT][size] = sort;
            column[A][size] = a;
            column[B][size] = b;
            column[C][size] = c;
            column[CHANNEL][size] = channel;
            column[LEVEL][size] = levelOf(scene, sort, a, b, c);
            column[SHARED][size] = shared;
            column[STRUCK][size] = 0;
            for (int user = 0; user < scene.users && near; user++) {
                if (Math.abs(scene.channel[user] - channel) <= scene.guard && mayStrike(scene, size, user)) {
                    column[STRUCK][size] |= 1 << user;
                    strikes++;
                }
            }
            size++;
        }

        private int levelOf(Scene scene, int sort, int a, int b, int c) {
            int powers = TIMES_A[sort] * scene.strength[a] + WEIGHT_B[sort] * scene.strength[b]
                    + (c < 0 ? 0 : WEIGHT_C[sort] * scene.strength[c]);
            return powers - scene.loss[ORDER_PLACE[sort]];
        }

        /** Whether the k-th PRODUCT would HIT a USER, were guard great enough; no LOSS is below 0, so it is HEARD. */
        private boolean mayStrike(Scene scene, int k, int user) {
            int a = column[A][k];
            if (a == user || column[B][k] == user || column[C][k] == user || scene.channel[user] == 0) {
                return false;
            }
            return (column[SHARED][k] & scene.slotBits[user]) != 0
                    && column[LEVEL][k] >= scene.linkLoss[scene.site[a] * SITES + scene.site[user]];
        }

        private boolean isIn(int k, int user) {
            return column[A][k] == user || column[B][k] == user || column[C][k] == user;
        }

        private boolean strikesUser(int k, int user) {
            return (column[STRUCK][k] >> user & 1) != 0;
        }

        /** Of a sort, or of all (NONE), what 0 the PRODUCTS, 1 those that are HEARD, 2 the HITS. */
        int sumOfSort(int sort, int what) {
            int sum = 0;
            for (int k = 0; k < size; k++) {
                if (sort == NONE || column[SORT][k] == sort) {
                    sum += share(k, what);
                }
            }
            return sum;
        }

        private int share(int k, int what) {
            if (what == 0) {
                return 1;
            }
            if (what == 1) {
                return column[LEVEL][k] >= 0 ? 1 : 0;
            }
            return Integer.bitCount(column[STRUCK][k]);
        }

        int strikesOn(int user) {
            int sum = 0;
            for (int k = 0; k < size; k++) {
                if (strikesUser(k, user)) {
                    sum++;
                }
            }
            return sum;
        }

        int placeOfStrikeOn(int user, int number) {
            int ahead = 0;
            for (int k = 0; k < size; k++) {
                if (strikesUser(k, user)) {
                    if (ahead == number) {
                        return k;
                    }
                    ahead++;
                }
            }
            return NOTHING;
        }

        int placeOfLoudest() {
            int best = NOTHING;
            for (int k = 0; k < size; k++) {
                if (column[STRUCK][k] != 0 && (best < 0 || column[LEVEL][k] > column[LEVEL][best])) {
                    best = k;
                }
            }
            return best;
        }

        int slotsOfStrikesOn(int user) {
            int bits = 0;
            for (int k = 0; k < size; k++) {
                if (strikesUser(k, user)) {
                    bits |= column[SHARED][k];
                }
            }
            return bits;
        }

        int nearestDistance(Scene scene, int user) {
            int best = NOTHING;
            for (int k = 0; k < size; k++) {
                if (mayStrike(scene, k, user)) {
                    int distance = Math.abs(column[CHANNEL][k] - scene.channel[user]);
                    if (best < 0 || distance < best) {
                        best = distance;
                    }
                }
            }
            return best;
        }

        /** HITS that are made by PRODUCTS the USER is in. */
        private int strikesMadeBy(int user) {
            int sum = 0;
            for (int k = 0; k < size; k++) {
                if (isIn(k, user)) {
                    sum += Integer.bitCount(column[STRUCK][k]);
                }
            }
            return sum;
        }

        int worstMaker(int users) {
            int best = NOTHING;
            int most = 0;
            for (int user = 0; user < users; user++) {
                int made = strikesMadeBy(user);
                if (made > most) {
                    best = user;
                    most = made;
                }
            }
            return best;
        }

        /** How many USERS stand ahead of one, when they are ranked by the HITS that they make. */
        int makersAhead(int user, int users) {
            int made = strikesMadeBy(user);
            int ahead = 0;
            for (int other = 0; other < users; other++) {
                int others = strikesMadeBy(other);
                if (others > made || others == made && other < user) {
                    ahead++;
                }
            }
            return ahead;
        }
    }

    private static final class Search {
        private final int[] wanted = new int[USERS_MOST];
        private int size = 0;
        int looks = 0;

        /**
         * SEARCH for a set of USERS, whose CHANNELS are taken away first: FOUND, and they have what it found;
         * or NOTHING or GAVE_UP, and they have none.
         */
        int seek(Products list, Scene scene, int set) {
            untune(scene, set);
            looks = 0;
            // What isn't CLEAN can't become so by more CHANNELS: none FITS, and one USER's LOOKS never give up.
            if (!list.allClean(scene)) {
                return NOTHING;
            }
            int place = 0;
            // Each turn is a LOOK or a step back, of which there is at most one more than LOOKS.
            for (int turn = 0; turn < 2 * LOOKS_MOST + 2 && place >= 0 && place < size; turn++) {
                int user = wanted[place];
                int next = Math.max(scene.low[user], scene.channel[user] + 1);
                if (next > scene.high[user]) {
                    scene.channel[user] = 0;
                    place--;
                } else if (looks == LOOKS_MOST) {
                    untune(scene, set);
                    return GAVE_UP;
                } else {
                    looks++;
                    scene.channel[user] = next;
                    place += list.allClean(scene) ? 1 : 0;
                }
            }
            return place == size ? FOUND : NOTHING;
        }

        private void untune(Scene scene, int set) {
            size = 0;
            for (int user = 0; user < scene.users && size < USERS_MOST; user++) {
                if ((set >> user & 1) != 0) {
                    scene.channel[user] = 0;
                    wanted[size] = user;
                    size++;
                }
            }
        }
    }

    /** What an IMAGE keeps, and what a change that is undone brings back. */
    private static final class Image {
        private final int[] channel = new int[USERS_MOST];
        private final int[] strength = new int[USERS_MOST];
        private final int[] slotBits = new int[USERS_MOST];
        private long shut = 0;

        void take(Scene scene) {
            System.arraycopy(scene.channel, 0, channel, 0, USERS_MOST);
            System.arraycopy(scene.strength, 0, strength, 0, USERS_MOST);
            System.arraycopy(scene.slotBits, 0, slotBits, 0, USERS_MOST);
            shut = scene.shut;
        }

        void giveTo(Scene scene) {
            System.arraycopy(channel, 0, scene.channel, 0, USERS_MOST);
            System.arraycopy(strength, 0, scene.strength, 0, USERS_MOST);
            System.arraycopy(slotBits, 0, scene.slotBits, 0, USERS_MOST);
            scene.shut = shut;
        }
    }

    /** What was so ahead of each of the latest changes. */
    private static final class History {
        private final Image[] images = new Image[UNDO_MOST];
        int size = 0;

        History() {
            for (int place = 0; place < UNDO_MOST; place++) {
                images[place] = new Image();
            }
        }

        void push(Scene scene) {
            if (size >= UNDO_MOST) {
                dropOldest();
            }
            images[size].take(scene);
            size++;
        }

        /** The oldest image's room goes last, where the next one is written. */
        private void dropOldest() {
            Image oldest = images[0];
            for (int place = 1; place < UNDO_MOST; place++) {
                images[place - 1] = images[place];
            }
            images[UNDO_MOST - 1] = oldest;
            size = UNDO_MOST - 1;
        }

        boolean pop(Scene scene) {
            if (size <= 0) {
                return false;
            }
            size--;
            images[size].giveTo(scene);
            return true;
        }
    }

    /** Reads a TEXT into a new scene, up to its first FAULT. */
    private static final class Reader {
        private static final int END = 0;
        private static final int WORD = 1;
        private static final int NUMBER = 2;
        private static final int SEMICOLON = 3;
        private static final int NO_TOKEN = 4;

        private static final int MISPLACED = 1;
        private static final int TOO_MUCH = 2;
        private static final int TOLD_ALREADY = 3;
        private static final int NOT_TOLD = 4;

        private static final int LETTERS_MOST = 6;
        private static final int LETTER_BITS = 5;
        private static final int FIRST_SHIFT = 25;
        private static final int BEFORE_A = 'a' - 1;
        /** Digits behind this are passed over: it is beyond all that may be told. */
        private static final int NUMBER_MOST = 1000000;

        /** The words of the language, packed as named() packs a name. */
        private static final int BAND_WORD =
                'b' - BEFORE_A << 25 | 'a' - BEFORE_A << 20 | 'n' - BEFORE_A << 15 | 'd' - BEFORE_A << 10;
        private static final int GUARD_WORD = 'g' - BEFORE_A << 25 | 'u' - BEFORE_A << 20 | 'a' - BEFORE_A << 15
                | 'r' - BEFORE_A << 10 | 'd' - BEFORE_A << 5;
        private static final int SPACE_WORD = 's' - BEFORE_A << 25 | 'p' - BEFORE_A << 20 | 'a' - BEFORE_A << 15
                | 'c' - BEFORE_A << 10 | 'e' - BEFORE_A << 5;
        private static final int ORDERS_WORD = 'o' - BEFORE_A << 25 | 'r' - BEFORE_A << 20 | 'd' - BEFORE_A << 15
                | 'e' - BEFORE_A << 10 | 'r' - BEFORE_A << 5 | 's' - BEFORE_A;
        private static final int LOSS_WORD =
                'l' - BEFORE_A << 25 | 'o' - BEFORE_A << 20 | 's' - BEFORE_A << 15 | 's' - BEFORE_A << 10;
        private static final int USER_WORD =
                'u' - BEFORE_A << 25 | 's' - BEFORE_A << 20 | 'e' - BEFORE_A << 15 | 'r' - BEFORE_A << 10;
        private static final int FIXED_WORD = 'f' - BEFORE_A << 25 | 'i' - BEFORE_A << 20 | 'x' - BEFORE_A << 15
                | 'e' - BEFORE_A << 10 | 'd' - BEFORE_A << 5;
        private static final int BLOCK_WORD = 'b' - BEFORE_A << 25 | 'l' - BEFORE_A << 20 | 'o' - BEFORE_A << 15
                | 'c' - BEFORE_A << 10 | 'k' - BEFORE_A << 5;
        private static final int LINK_WORD =
                'l' - BEFORE_A << 25 | 'i' - BEFORE_A << 20 | 'n' - BEFORE_A << 15 | 'k' - BEFORE_A << 10;
        private static final int SLOTS_WORD = 's' - BEFORE_A << 25 | 'l' - BEFORE_A << 20 | 'o' - BEFORE_A << 15
                | 't' - BEFORE_A << 10 | 's' - BEFORE_A << 5;
        private static final int SEED_WORD =
                's' - BEFORE_A << 25 | 'e' - BEFORE_A << 20 | 'e' - BEFORE_A << 15 | 'd' - BEFORE_A << 10;

        private final int[] signs;
        private final int length;
        final Scene scene = new Scene();
        private int at = 0;
        /** The token that was read last: its sort, where it starts, its packed letters or its number. */
        private int token = END;
        private int start = 0;
        private int value = 0;
        int fault = 0;
        int place = NONE;
        int lines = 0;
        private int blocks = 0;
        /** Bits: what may be told once and has been, USERS with a fixed CHANNEL, USERS with SLOTS. */
        private int toldOnce = 0;
        private int fixedUsers = 0;
        private int slotUsers = 0;

        Reader(int[] signs, int length) {
            this.signs = signs;
            this.length = length;
        }

        void readAll() {
            next();
            while (token != END && fault == 0 && lines <= TAPE_MOST) {
                readLine();
                endLine();
            }
        }

        /** All that reads does nothing once there is a FAULT, so that the first one stays. */
        private void fail(int kind) {
            if (fault == 0) {
                fault = kind;
                place = start;
            }
        }

        private void readLine() {
            int word = token == WORD ? value : 0;
            switch (word) {
                case BAND_WORD:
                    readBand();
                    break;
                case GUARD_WORD:
                    tellOnce(2);
                    scene.guard = takeNumber(0, GUARD_MOST);
                    break;
                case SPACE_WORD:
                    tellOnce(4);
                    scene.space = takeNumber(1, SPACE_MOST);
                    break;
                case ORDERS_WORD:
                    tellOnce(8);
                    scene.orders = takeNumber(0, ORDERS_MOST);
                    break;
                case LOSS_WORD:
                    tellOnce(16);
                    scene.loss[0] = takeNumber(0, LOSS_MOST);
                    scene.loss[1] = takeNumber(0, LOSS_MOST);
                    scene.loss[2] = takeNumber(0, LOSS_MOST);
                    break;
                case USER_WORD:
                    readUser();
                    break;
                case FIXED_WORD:
                    readFixed();
                    break;
                case BLOCK_WORD:
                    readBlock();
                    break;
                case LINK_WORD:
                    readLink();
                    break;
                case SLOTS_WORD:
                    readSlots();
                    break;
                case SEED_WORD:
                    tellOnce(32);
                    scene.seed = takeNumber(0, SEED_MOST);
                    break;
                default:
                    fail(MISPLACED);
            }
        }

        /** Goes on to the next LINE's first token. */
        private void endLine() {
            if (fault != 0) {
                return;
            }
            next();
            if (token == SEMICOLON) {
                lines++;
                next();
            } else {
                fail(MISPLACED);
            }
        }

        private void tellOnce(int bit) {
            if ((toldOnce & bit) != 0) {
                fail(TOLD_ALREADY);
            }
            toldOnce |= bit;
        }

        /** A fixed CHANNEL needs a USER told ahead, so USERS and blocks are all to look for. */
        private void readBand() {
            if (scene.users > 0 || blocks > 0) {
                fail(MISPLACED);
            }
            tellOnce(1);
            scene.band = takeNumber(BAND_LEAST, BAND_MOST);
        }

        private void readUser() {
            int user = scene.users;
            if (user >= USERS_MOST) {
                fail(TOO_MUCH);
                return;
            }
            int name = takeName();
            if (scene.userOfName(name) >= 0) {
                fail(TOLD_ALREADY);
            }
            scene.name[user] = name;
            scene.site[user] = takeNumber(0, SITES - 1);
            scene.strength[user] = takeNumber(0, POWER_MOST);
            scene.low[user] = takeNumber(1, scene.band);
            scene.high[user] = takeNumber(scene.low[user], scene.band);
            scene.slotBits[user] = SLOTS_MOST;
            scene.users++;
        }

        private void readFixed() {
            int user = takeUser();
            if (user < 0) {
                return;
            }
            if ((fixedUsers >> user & 1) != 0) {
                fail(TOLD_ALREADY);
            }
            fixedUsers |= 1 << user;
            scene.channel[user] = takeNumber(1, scene.band);
        }

        private void readSlots() {
            int user = takeUser();
            if (user < 0) {
                return;
            }
            if ((slotUsers >> user & 1) != 0) {
                fail(TOLD_ALREADY);
            }
            slotUsers |= 1 << user;
            scene.slotBits[user] = takeNumber(1, SLOTS_MOST);
        }

        private void readBlock() {
            if (blocks >= BLOCKS_MOST) {
                fail(TOO_MUCH);
            }
            blocks++;
            int first = takeNumber(1, scene.band);
            int last = takeNumber(first, scene.band);
            for (int channel = first; channel <= last; channel++) {
                scene.shut |= 1L << channel;
            }
        }

        private void readLink() {
            int one = takeNumber(0, SITES - 1);
            int other = takeNumber(0, SITES - 1);
            if (one == other) {
                fail(TOO_MUCH);
            }
            if (scene.linkLoss[one * SITES + other] != UNLINKED) {
                fail(TOLD_ALREADY);
            }
            int loss = takeNumber(0, LOSS_MOST);
            scene.linkLoss[one * SITES + other] = loss;
            scene.linkLoss[other * SITES + one] = loss;
        }

        /** The least that may stand there, where what stands there is a FAULT. */
        private int takeNumber(int least, int most) {
            if (fault != 0) {
                return least;
            }
            next();
            if (token != NUMBER) {
                fail(MISPLACED);
                return least;
            }
            if (value < least || value > most) {
                fail(TOO_MUCH);
                return least;
            }
            return value;
        }

        /** The packed name; 0, which is no USER's name, where what stands there is a FAULT. */
        private int takeName() {
            if (fault != 0) {
                return 0;
            }
            next();
            if (token != WORD || isOfLanguage(value)) {
                fail(MISPLACED);
                return 0;
            }
            return value;
        }

        private int takeUser() {
            int user = scene.userOfName(takeName());
            if (user < 0) {
                fail(NOT_TOLD);
            }
            return user;
        }

        private static boolean isOfLanguage(int word) {
            switch (word) {
                case BAND_WORD:
                case GUARD_WORD:
                case SPACE_WORD:
                case ORDERS_WORD:
                case LOSS_WORD:
                case USER_WORD:
                case FIXED_WORD:
                case BLOCK_WORD:
                case LINK_WORD:
                case SLOTS_WORD:
                case SEED_WORD:
                    return true;
                default:
                    return false;
            }
        }

        private void next() {
            while (at < length && (signs[at] == 10 || signs[at] == 32)) {
                at++;
            }
            start = at;
            value = 0;
            int sign = at < length ? signs[at] : 0;
            if (at >= length) {
                token = END;
            } else if (sign >= 'a' && sign <= 'z') {
                readLetters();
            } else if (sign >= '0' && sign <= '9') {
                readDigits();
            } else {
                token = sign == ';' ? SEMICOLON : NO_TOKEN;
                at++;
            }
        }

        private void readLetters() {
            int letters = 0;
            while (at < length && signs[at] >= 'a' && signs[at] <= 'z') {
                if (letters < LETTERS_MOST) {
                    value |= signs[at] - BEFORE_A << FIRST_SHIFT - LETTER_BITS * letters;
                }
                letters++;
                at++;
            }
            token = letters <= LETTERS_MOST ? WORD : NO_TOKEN;
        }

        private void readDigits() {
            while (at < length && signs[at] >= '0' && signs[at] <= '9') {
                if (value < NUMBER_MOST) {
                    value = value * 10 + (signs[at] - '0');
                }
                at++;
            }
            token = NUMBER;
        }
    }
}
