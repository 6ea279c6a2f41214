import java.util.Arrays;

/** Aspens as the telephone of the plains. What each call promises stands in shared/DOC.md. */
public final class AspenLine {
    public static final int BAD = -1, STATE = -2, FULL = -3, NONE = -4;

    private static final int MOST_TREES = 6;
    private static final int MOST_ROOTS = 9;
    private static final int MOST_TALKS = 6;
    private static final int MOST_SEEN = 6;
    private static final int MOST_BYTES = 160;
    private static final int MOST_CELLS = 40;
    private static final int MOST_READ = 13;
    private static final int MOST_TIMES = 60;

    private static final int HIGHEST_BYTE = 127;
    private static final int HIGHEST_LENGTH = 9;
    private static final int HIGHEST_WIND = 20;
    private static final int HIGHEST_HOUR = 23;
    private static final int HIGHEST_BREATH = 60;
    private static final int HIGHEST_LOUD = 120;
    private static final int HIGHEST_KIND = 3;
    private static final int HIGHEST_LANE = 2;

    private static final int PLAIN = 0;
    private static final int SILVER = 1;
    private static final int OLD = 2;
    private static final int SAPLING = 3;

    private static final int BYTES = 0;
    private static final int SHORTS = 1;
    private static final int CELLS_OF_A_TALK = 3;

    private static final int NO_FAULT = 0;
    private static final int NULL_FAULT = 1;
    private static final int INDEX_FAULT = 2;
    private static final int CAST_FAULT = 3;
    private static final int SIZE_FAULT = 4;

    private static final int TENTHS = 10;

    private final Grove live = new Grove();
    private final Grove trial = new Grove();
    private final Grove[] images = {new Grove(), new Grove()};
    private final Best best = new Best();
    private final Reader reader = new Reader();
    private final Sightings seen = new Sightings();
    private final Sheet[] sheets = {new Sheet(), new Sheet(), new Sheet(), new Sheet()};
    private int keptBits;
    private int readFault;

    public AspenLine() {
    }

    // ---- the text, what there is

    public int feed(int c) {
        return within(c, 0, HIGHEST_BYTE) ? reader.tape.add(c) : BAD;
    }

    public int end(int n) {
        return within(n, 0, reader.tape.size) ? reader.tape.keepFirst(n) : BAD;
    }

    public int text() {
        int lines = reader.readWhole();
        reader.tape.keepFirst(0);
        if (reader.fault != NO_FAULT) {
            return -10 - reader.faultPlace;
        }
        live.become(reader.draft);
        seen.keepFirst(0);
        keptBits = 0;
        return lines;
    }

    public int fault() {
        return reader.fault;
    }

    public int rule(int what) {
        switch (what) {
            case 0: return live.treeCount;
            case 1: return live.rootCount;
            case 2: return live.windNow;
            case 3: return live.talkCount;
            case 4: return live.cutBits;
            case 5: return live.crossedPairs();
            default: return BAD;
        }
    }

    public int tree(int t, int what) {
        if (!live.hasTree(t)) {
            return BAD;
        }
        switch (what) {
            case 0: return live.kinds[t];
            case 1: return live.wholeRootsOf(t);
            case 2: return live.treesInReach(t);
            case 3: return live.talksHeardAt(t);
            default: return BAD;
        }
    }

    public int root(int i, int what) {
        if (!live.hasRoot(i)) {
            return BAD;
        }
        switch (what) {
            case 0: return live.firsts[i];
            case 1: return live.seconds[i];
            case 2: return live.lengths[i];
            case 3: return live.isWhole(i) ? 0 : 1;
            default: return BAD;
        }
    }

    public int talk(int k, int what) {
        if (!live.hasTalk(k)) {
            return BAD;
        }
        switch (what) {
            case 0: return live.hours[k];
            case 1: return live.speakers[k];
            case 2: return live.talkBreaths[k];
            case 3: return live.hearers(live.speakers[k], live.talkBreaths[k]);
            default: return BAD;
        }
    }

    public int far(int t, int u) {
        if (!live.hasTree(t) || !live.hasTree(u)) {
            return BAD;
        }
        int distance = live.measure(t)[u];
        return distance == Grove.OUT_OF_REACH ? NONE : distance;
    }

    public int loud(int t, int u, int breath) {
        if (!live.hasTree(t) || !live.hasTree(u) || !isBreath(breath)) {
            return BAD;
        }
        return live.loudness(u, breath, live.measure(t));
    }

    // ---- what is changed

    public int graft(int t, int v) {
        return live.hasTree(t) && within(v, 0, HIGHEST_KIND) ? exchange(live.kinds, t, v) : BAD;
    }

    public int stretch(int i, int v) {
        return live.hasRoot(i) && isLength(v) ? exchange(live.lengths, i, v) : BAD;
    }

    public int grow(int t, int u, int length) {
        if (!live.hasTree(t) || !live.hasTree(u) || t == u || !isLength(length)) {
            return BAD;
        }
        return live.addRoot(t, u, length);
    }

    public int cut(int i, boolean is) {
        if (!live.hasRoot(i)) {
            return BAD;
        }
        int was = live.isWhole(i) ? 0 : 1;
        live.cutBits = is ? live.cutBits | 1 << i : live.cutBits & ~(1 << i);
        return was;
    }

    public int wind(int v) {
        if (!within(v, 0, HIGHEST_WIND)) {
            return BAD;
        }
        int was = live.windNow;
        live.windNow = v;
        return was;
    }

    public int book(int hour, int t, int breath) {
        if (!within(hour, 0, HIGHEST_HOUR) || !live.hasTree(t) || !isBreath(breath)) {
            return BAD;
        }
        return live.addTalk(hour, t, breath);
    }

    public int shift(int k, int what, int v) {
        if (!live.hasTalk(k)) {
            return BAD;
        }
        switch (what) {
            case 0: return within(v, 0, HIGHEST_HOUR) ? exchange(live.hours, k, v) : BAD;
            case 1: return live.hasTree(v) ? exchange(live.speakers, k, v) : BAD;
            case 2: return isBreath(v) ? exchange(live.talkBreaths, k, v) : BAD;
            default: return BAD;
        }
    }

    public int drop(int n) {
        return within(n, 0, live.talkCount) ? live.keepFirstTalks(n) : BAD;
    }

    // ---- who hears what

    public int hears(int t, int breath) {
        return live.hasTree(t) && isBreath(breath) ? live.hearers(t, breath) : BAD;
    }

    public int crossed(int k, int j) {
        if (!live.hasTalk(k) || !live.hasTalk(j) || k == j) {
            return BAD;
        }
        return live.areCrossed(k, j, live.listen()) ? 1 : 0;
    }

    public int least(int t, int some) {
        return live.hasTree(t) && live.hasTrees(some) ? live.leastBreath(t, some, some) : BAD;
    }

    public int just(int t, int some) {
        return live.hasTree(t) && live.hasTrees(some) ? live.leastBreath(t, some, live.allTrees()) : BAD;
    }

    public int from(int some, int what) {
        if (!live.hasTrees(some) || !isEither(what)) {
            return BAD;
        }
        best.below(Best.ANY_AMOUNT);
        for (int t = 0; t < live.treeCount; t++) {
            int breath = live.leastBreath(t, some, some);
            if (breath != NONE) {
                best.offer(t, breath);
            }
        }
        return best.told(what);
    }

    // ---- what is best

    public int hush(int t, int u, int breath, int what) {
        if (!live.hasTree(t) || !live.hasTree(u) || !isBreath(breath) || !isEither(what)) {
            return BAD;
        }
        trial.become(live);
        best.below(Best.ANY_AMOUNT);
        for (int more = 0; more < 1 << live.rootCount; more++) {
            int roots = Integer.bitCount(more);
            if ((more & live.cutBits) == 0 && roots < best.amount) {
                trial.cutBits = live.cutBits | more;
                if ((trial.hearers(t, breath) & 1 << u) == 0) {
                    best.offer(more, roots);
                }
            }
        }
        return best.told(1 - what);
    }

    public int join(int t, int breath, int length, int what) {
        if (!live.hasTree(t) || !isBreath(breath) || !isLength(length) || !isEither(what)) {
            return BAD;
        }
        if (live.rootCount == MOST_ROOTS) {
            return FULL;
        }
        // Most that hear are fewest that do not, so that one rule of "best" serves all.
        best.below(live.treeCount - Integer.bitCount(live.hearers(t, breath)));
        for (int lesser = 0; lesser < live.treeCount; lesser++) {
            for (int greater = lesser + 1; greater < live.treeCount; greater++) {
                trial.become(live);
                trial.addRoot(lesser, greater, length);
                int heard = Integer.bitCount(trial.hearers(t, breath));
                best.offer(10 * lesser + greater, live.treeCount - heard);
            }
        }
        return what == 0 || best.isNone() ? best.told(0) : live.treeCount - best.amount;
    }

    public int dear(int what) {
        if (!isEither(what)) {
            return BAD;
        }
        trial.become(live);
        best.below(live.hearersOfAllTalks());
        for (int i = 0; i < live.rootCount; i++) {
            if (live.isWhole(i)) {
                trial.cutBits = live.cutBits | 1 << i;
                best.offer(i, trial.hearersOfAllTalks());
            }
        }
        return best.told(what);
    }

    public int hour(int k, int what) {
        if (!live.hasTalk(k) || !isEither(what)) {
            return BAD;
        }
        trial.become(live);
        best.below(Best.ANY_AMOUNT);
        for (int hour = 0; hour <= HIGHEST_HOUR; hour++) {
            trial.hours[k] = hour;
            best.offer(hour, trial.crossedPairs());
        }
        return best.told(what);
    }

    public int kind(int t, int what) {
        if (!live.hasTree(t) || !isEither(what)) {
            return BAD;
        }
        trial.become(live);
        best.below(Best.ANY_AMOUNT);
        for (int kind = 0; kind <= HIGHEST_KIND; kind++) {
            trial.kinds[t] = kind;
            best.offer(kind, trial.crossedPairs());
        }
        return best.told(what);
    }

    public int calm() {
        trial.become(live);
        for (int wind = 0; wind <= HIGHEST_WIND; wind++) {
            trial.windNow = wind;
            if (trial.crossedPairs() == 0) {
                return wind;
            }
        }
        return NONE;
    }

    // ---- beavers

    public long luck(int v, int t, int u, int breath, int what) {
        if (!isTenths(v) || !live.hasTree(t) || !live.hasTree(u) || !isBreath(breath) || !isEither(what)) {
            return BAD;
        }
        return meanHearers(v, t, breath, 1 << u, what);
    }

    public long mean(int v, int t, int breath, int what) {
        if (!isTenths(v) || !live.hasTree(t) || !isBreath(breath) || !isEither(what)) {
            return BAD;
        }
        return meanHearers(v, t, breath, live.allTrees(), what);
    }

    /** The odds that one TREE hears are the mean of how many hear among that one alone. */
    private long meanHearers(int v, int t, int breath, int among, int what) {
        int whole = live.rootCount - Integer.bitCount(live.cutBits);
        long sum = 0;
        trial.become(live);
        for (int more = 0; more < 1 << live.rootCount; more++) {
            if ((more & live.cutBits) == 0) {
                int fallen = Integer.bitCount(more);
                long weight = power(v, fallen) * power(TENTHS - v, whole - fallen);
                if (weight != 0) {
                    trial.cutBits = live.cutBits | more;
                    sum += weight * Integer.bitCount(trial.hearers(t, breath) & among);
                }
            }
        }
        long all = power(TENTHS, whole);
        long divisor = Math.max(1, commonDivisor(sum, all));
        return what == 0 ? sum / divisor : all / divisor;
    }

    // ---- who said it

    public int see(int u, int loud) {
        return live.hasTree(u) && within(loud, 0, HIGHEST_LOUD) ? seen.add(u, loud) : BAD;
    }

    public int forget(int n) {
        return within(n, 0, seen.size) ? seen.keepFirst(n) : BAD;
    }

    public int sayers() {
        return seen.possibleSayers(live);
    }

    public int breaths(int t, int what) {
        if (!live.hasTree(t) || !isEither(what)) {
            return BAD;
        }
        return what == 0 ? seen.howManyBreaths(live, t) : seen.leastPossible(live, t);
    }

    public int kinds(int t) {
        if (!live.hasTree(t)) {
            return BAD;
        }
        int bits = 0;
        trial.become(live);
        for (int kind = 0; kind <= HIGHEST_KIND; kind++) {
            trial.kinds[t] = kind;
            if (seen.possibleSayers(trial) != 0) {
                bits |= 1 << kind;
            }
        }
        return bits;
    }

    public int ask(int what) {
        if (!isEither(what)) {
            return BAD;
        }
        int now = 0;
        for (int t = 0; t < live.treeCount; t++) {
            now += seen.howManyBreaths(live, t);
        }
        best.below(now);
        for (int u = 0; u < live.treeCount; u++) {
            best.offer(u, seen.leftAtWorst(live, u));
        }
        return best.told(what);
    }

    // ---- by a seed

    public int drift(int seed, int n, int what) {
        if (!within(n, 1, MOST_TIMES) || !isEither(what)) {
            return BAD;
        }
        int roots = live.rootCount;
        if (roots == 0) {
            return STATE;
        }
        trial.become(live);
        int state = seed;
        int sum = 0;
        int last = 0;
        for (int time = 0; time < n; time++) {
            state = state * 1103515245 + 12345;
            int got = state >> 16 & 0x7fff;
            trial.cutBits ^= 1 << got % roots;
            trial.windNow = got / 16 % (HIGHEST_WIND + 1);
            last = trial.hearersOfAllTalks();
            sum += last;
        }
        return what == 0 ? sum : last;
    }

    // ---- images, sheets

    public int keep(int k) {
        if (!isImage(k)) {
            return BAD;
        }
        int was = isKept(k) ? 1 : 0;
        images[k].become(live);
        keptBits |= 1 << k;
        return was;
    }

    public int back(int k) {
        if (!isImage(k)) {
            return BAD;
        }
        if (!isKept(k)) {
            return STATE;
        }
        live.become(images[k]);
        return live.crossedPairs();
    }

    public int sheet(int k, int lane, int n) {
        if (!isSheet(k) || !isLane(lane) || n > MOST_CELLS) {
            return BAD;
        }
        if (n < 0) {
            return -10 - SIZE_FAULT;
        }
        sheets[k].renew(lane, n);
        return 1;
    }

    public int lay(int k, int i, int v) {
        if (!isSheet(k)) {
            return BAD;
        }
        int fault = sheets[k].faultOfCells(i, 1);
        if (fault != NO_FAULT) {
            return -10 - fault;
        }
        sheets[k].put(i, v);
        return 1;
    }

    public int read(int k, int lane, int f, int n) {
        if (!isSheet(k) || !isLane(lane) || !within(n, 0, MOST_READ)) {
            return BAD;
        }
        Sheet sheet = sheets[k];
        int talksBefore = live.talkCount;
        int fault = NO_FAULT;
        int came = 0;
        while (came < n && fault == NO_FAULT) {
            // A cell behind the last one is never passed, so that this sum can not overflow.
            int at = f + CELLS_OF_A_TALK * came;
            fault = sheet.faultOfReading(lane, at);
            if (fault == NO_FAULT) {
                if (book(sheet.cells[at], sheet.cells[at + 1], sheet.cells[at + 2]) < 0) {
                    live.keepFirstTalks(talksBefore);
                    return -20 - came;
                }
                came++;
            }
        }
        readFault = fault;
        return came;
    }

    public int torn() {
        return readFault;
    }

    public int count(int what) {
        switch (what) {
            case 0: return seen.size;
            case 1: return Integer.bitCount(keptBits);
            case 2: return reader.tape.size;
            case 3: return sheets[0].isNothing() ? NONE : sheets[0].size;
            case 4: return sumOfFirst(live.rootCount, live.lengths);
            case 5: return sumOfFirst(live.talkCount, live.talkBreaths);
            default: return BAD;
        }
    }

    // ---- what numbers may be

    private static boolean within(int number, int least, int most) {
        return number >= least && number <= most;
    }

    private static boolean isBreath(int number) {
        return within(number, 1, HIGHEST_BREATH);
    }

    private static boolean isLength(int number) {
        return within(number, 1, HIGHEST_LENGTH);
    }

    private static boolean isTenths(int number) {
        return within(number, 0, TENTHS);
    }

    private static boolean isEither(int what) {
        return within(what, 0, 1);
    }

    private static boolean isLane(int lane) {
        return within(lane, 0, HIGHEST_LANE);
    }

    private boolean isImage(int k) {
        return within(k, 0, images.length - 1);
    }

    private boolean isKept(int k) {
        return (keptBits & 1 << k) != 0;
    }

    private boolean isSheet(int k) {
        return within(k, 0, sheets.length - 1);
    }

    // ---- small sums

    private static int exchange(int[] row, int i, int v) {
        int was = row[i];
        row[i] = v;
        return was;
    }

    private static int sumOfFirst(int n, int[] row) {
        int sum = 0;
        for (int i = 0; i < n; i++) {
            sum += row[i];
        }
        return sum;
    }

    private static long power(int base, int exponent) {
        long product = 1;
        for (int i = 0; i < exponent; i++) {
            product *= base;
        }
        return product;
    }

    /** Euclid's way; a hundred steps are more than two longs can need. */
    private static long commonDivisor(long a, long b) {
        long greater = a;
        long lesser = b;
        for (int step = 0; step < 100 && lesser != 0; step++) {
            long rest = greater % lesser;
            greater = lesser;
            lesser = rest;
        }
        return greater;
    }

    /** TREES, ROOTS, WIND and TALKS: as they are, as an IMAGE has them, or as they would be. */
    private static final class Grove {
        /** Above every BREATH, so that nothing of a word is left over such a distance. */
        static final int OUT_OF_REACH = 1000;

        int treeCount;
        final int[] kinds = new int[MOST_TREES];
        int rootCount;
        final int[] firsts = new int[MOST_ROOTS];
        final int[] seconds = new int[MOST_ROOTS];
        final int[] lengths = new int[MOST_ROOTS];
        int cutBits;
        int windNow;
        int talkCount;
        final int[] hours = new int[MOST_TALKS];
        final int[] speakers = new int[MOST_TALKS];
        final int[] talkBreaths = new int[MOST_TALKS];
        private final int[] distances = new int[MOST_TREES];
        private final int[] heard = new int[MOST_TALKS];

        void clear() {
            treeCount = 0;
            rootCount = 0;
            cutBits = 0;
            windNow = 0;
            talkCount = 0;
        }

        void become(Grove other) {
            treeCount = other.treeCount;
            System.arraycopy(other.kinds, 0, kinds, 0, MOST_TREES);
            rootCount = other.rootCount;
            System.arraycopy(other.firsts, 0, firsts, 0, MOST_ROOTS);
            System.arraycopy(other.seconds, 0, seconds, 0, MOST_ROOTS);
            System.arraycopy(other.lengths, 0, lengths, 0, MOST_ROOTS);
            cutBits = other.cutBits;
            windNow = other.windNow;
            talkCount = other.talkCount;
            System.arraycopy(other.hours, 0, hours, 0, MOST_TALKS);
            System.arraycopy(other.speakers, 0, speakers, 0, MOST_TALKS);
            System.arraycopy(other.talkBreaths, 0, talkBreaths, 0, MOST_TALKS);
        }

        int addTree(int kind) {
            if (treeCount >= MOST_TREES) {
                return FULL;
            }
            kinds[treeCount] = kind;
            treeCount++;
            return treeCount;
        }

        int addRoot(int first, int second, int length) {
            if (rootCount >= MOST_ROOTS) {
                return FULL;
            }
            firsts[rootCount] = first;
            seconds[rootCount] = second;
            lengths[rootCount] = length;
            rootCount++;
            return rootCount;
        }

        int addTalk(int hour, int speaker, int breath) {
            if (talkCount >= MOST_TALKS) {
                return FULL;
            }
            hours[talkCount] = hour;
            speakers[talkCount] = speaker;
            talkBreaths[talkCount] = breath;
            talkCount++;
            return talkCount;
        }

        int keepFirstTalks(int n) {
            int had = talkCount;
            talkCount = n;
            return had;
        }

        boolean hasTree(int t) {
            return within(t, 0, treeCount - 1);
        }

        boolean hasTrees(int bits) {
            return within(bits, 0, allTrees());
        }

        boolean hasRoot(int i) {
            return within(i, 0, rootCount - 1);
        }

        boolean hasTalk(int k) {
            return within(k, 0, talkCount - 1);
        }

        int allTrees() {
            return (1 << treeCount) - 1;
        }

        boolean isWhole(int i) {
            return (cutBits & 1 << i) == 0;
        }

        /** Whether ROOTS or TALKS name a TREE that there is not. */
        boolean lacksTree() {
            boolean lacks = false;
            for (int i = 0; i < rootCount; i++) {
                lacks |= !hasTree(firsts[i]) || !hasTree(seconds[i]);
            }
            for (int k = 0; k < talkCount; k++) {
                lacks |= !hasTree(speakers[k]);
            }
            return lacks;
        }

        int wholeRootsOf(int t) {
            int whole = 0;
            for (int i = 0; i < rootCount; i++) {
                if (isWhole(i) && (firsts[i] == t || seconds[i] == t)) {
                    whole++;
                }
            }
            return whole;
        }

        /** FAR from a TREE to each; the row is used again by the next call. */
        int[] measure(int t) {
            Arrays.fill(distances, OUT_OF_REACH);
            distances[t] = 0;
            boolean nearer = true;
            // The shortest way passes no TREE twice, so it has fewer ROOTS than there are TREES.
            for (int round = 1; round < treeCount && nearer; round++) {
                nearer = false;
                for (int i = 0; i < rootCount; i++) {
                    if (isWhole(i) && shorten(firsts[i], seconds[i], lengths[i])) {
                        nearer = true;
                    }
                }
            }
            return distances;
        }

        /** Whether one of two TREES is nearer by way of the other, which is the nearer one then. */
        private boolean shorten(int first, int second, int length) {
            int farther = distances[first] < distances[second] ? second : first;
            int way = Math.min(distances[first], distances[second]) + length;
            if (way >= distances[farther]) {
                return false;
            }
            distances[farther] = way;
            return true;
        }

        int treesInReach(int t) {
            int[] away = measure(t);
            int bits = 0;
            for (int u = 0; u < treeCount; u++) {
                if (away[u] != OUT_OF_REACH) {
                    bits |= 1 << u;
                }
            }
            return bits;
        }

        /** How LOUD a word is at a TREE that is so far away from where it is said. */
        int loudness(int u, int breath, int[] away) {
            int comes = Math.max(0, breath - away[u]);
            switch (kinds[u]) {
                case SILVER: return 2 * comes;
                case OLD: return comes / 2;
                case SAPLING: return Math.max(0, 2 * comes - 3);
                default: return comes;
            }
        }

        int hearers(int t, int breath) {
            return hearersWithin(measure(t), breath);
        }

        private int hearersWithin(int[] away, int breath) {
            int bits = 0;
            for (int u = 0; u < treeCount; u++) {
                if (loudness(u, breath, away) > windNow) {
                    bits |= 1 << u;
                }
            }
            return bits;
        }

        /** The least BREATH by which, of those among whom is looked, just some hear. */
        int leastBreath(int t, int some, int among) {
            int[] away = measure(t);
            for (int breath = 1; breath <= HIGHEST_BREATH; breath++) {
                if ((hearersWithin(away, breath) & among) == some) {
                    return breath;
                }
            }
            return NONE;
        }

        /** Who hears each of the TALKS; the row is used again by the next call. */
        int[] listen() {
            for (int k = 0; k < talkCount; k++) {
                heard[k] = hearersWithin(measure(speakers[k]), talkBreaths[k]);
            }
            return heard;
        }

        int talksHeardAt(int t) {
            int[] hearersOf = listen();
            int bits = 0;
            for (int k = 0; k < talkCount; k++) {
                if ((hearersOf[k] & 1 << t) != 0) {
                    bits |= 1 << k;
                }
            }
            return bits;
        }

        int hearersOfAllTalks() {
            int[] hearersOf = listen();
            int sum = 0;
            for (int k = 0; k < talkCount; k++) {
                sum += Integer.bitCount(hearersOf[k]);
            }
            return sum;
        }

        boolean areCrossed(int k, int j, int[] hearersOf) {
            return hours[k] == hours[j] && (hearersOf[k] & hearersOf[j]) != 0;
        }

        int crossedPairs() {
            int[] hearersOf = listen();
            int pairs = 0;
            for (int k = 0; k < talkCount; k++) {
                for (int j = 0; j < k; j++) {
                    if (areCrossed(k, j, hearersOf)) {
                        pairs++;
                    }
                }
            }
            return pairs;
        }
    }

    /** The first of the choices offered that has the least amount. */
    private static final class Best {
        /** Above every amount that is ever offered. */
        static final int ANY_AMOUNT = 1000;

        int choice;
        int amount;

        void below(int limit) {
            choice = NONE;
            amount = limit;
        }

        void offer(int another, int itsAmount) {
            if (itsAmount < amount) {
                choice = another;
                amount = itsAmount;
            }
        }

        boolean isNone() {
            return choice == NONE;
        }

        int told(int what) {
            return what == 0 || isNone() ? choice : amount;
        }
    }

    /** What was SEEN of THE CALL: so LOUD at a TREE. */
    private static final class Sightings {
        int size;
        private final int[] places = new int[MOST_SEEN];
        private final int[] louds = new int[MOST_SEEN];
        private final int[] left = new int[HIGHEST_LOUD + 1];

        int add(int u, int howLoud) {
            if (size >= MOST_SEEN) {
                return FULL;
            }
            places[size] = u;
            louds[size] = howLoud;
            size++;
            return size;
        }

        int keepFirst(int n) {
            int had = size;
            size = n;
            return had;
        }

        private boolean fit(Grove grove, int breath, int[] away) {
            for (int i = 0; i < size; i++) {
                if (grove.loudness(places[i], breath, away) != louds[i]) {
                    return false;
                }
            }
            return true;
        }

        int howManyBreaths(Grove grove, int t) {
            int[] away = grove.measure(t);
            int many = 0;
            for (int breath = 1; breath <= HIGHEST_BREATH; breath++) {
                if (fit(grove, breath, away)) {
                    many++;
                }
            }
            return many;
        }

        int leastPossible(Grove grove, int t) {
            int[] away = grove.measure(t);
            for (int breath = 1; breath <= HIGHEST_BREATH; breath++) {
                if (fit(grove, breath, away)) {
                    return breath;
                }
            }
            return NONE;
        }

        int possibleSayers(Grove grove) {
            int bits = 0;
            for (int t = 0; t < grove.treeCount; t++) {
                if (leastPossible(grove, t) != NONE) {
                    bits |= 1 << t;
                }
            }
            return bits;
        }

        /** How many (TREE, BREATH) the worst answer leaves, if one looks at a TREE more. */
        int leftAtWorst(Grove grove, int u) {
            int worst = 0;
            Arrays.fill(left, 0);
            for (int t = 0; t < grove.treeCount; t++) {
                int[] away = grove.measure(t);
                for (int breath = 1; breath <= HIGHEST_BREATH; breath++) {
                    if (fit(grove, breath, away)) {
                        int howLoud = grove.loudness(u, breath, away);
                        left[howLoud]++;
                        worst = Math.max(worst, left[howLoud]);
                    }
                }
            }
            return worst;
        }
    }

    /** THE TAPE. */
    private static final class Tape {
        int size;
        final byte[] bytes = new byte[MOST_BYTES];

        int add(int c) {
            if (size >= MOST_BYTES) {
                return FULL;
            }
            bytes[size] = (byte) c;
            size++;
            return size;
        }

        int keepFirst(int n) {
            int had = size;
            size = n;
            return had;
        }
    }

    /** Reads a text TOKEN by TOKEN; what it tells stands in a draft until all of it is taken. */
    private static final class Reader {
        private static final int NO_TOKEN = 1, MISPLACED = 2, OUT_OF_BOUNDS = 3;
        private static final int SECOND_WIND = 4, TOO_MANY = 5, NO_SUCH_TREE = 6;
        private static final int NAME = 0, NUMBER = 1, SIGN = 2, END = 3;
        private static final int LONGEST_NUMBER = 2;
        private static final int NO_NUMBER = -1;

        final Tape tape = new Tape();
        final Grove draft = new Grove();
        int fault;
        int faultPlace;
        private int tokenKind;
        private int tokenStart;
        private int tokenEnd;
        private boolean windTold;

        /** How many lines it has, if there is no fault. */
        int readWhole() {
            fault = NO_FAULT;
            faultPlace = 0;
            tokenEnd = 0;
            windTold = false;
            draft.clear();
            readToken();
            int lines = 0;
            // Each line has a byte at least.
            while (lines < tape.size && fault == NO_FAULT && tokenKind != END) {
                readLine();
                lines++;
            }
            if (draft.lacksTree()) {
                fail(NO_SUCH_TREE);
            }
            return lines;
        }

        /** Only the first FAULT that is met counts. */
        private void fail(int which) {
            if (fault == NO_FAULT) {
                fault = which;
                faultPlace = tokenStart;
            }
        }

        private void readLine() {
            if (tokenKind != NAME) {
                fail(MISPLACED);
            } else if (isNamed("plain")) {
                readTree(PLAIN);
            } else if (isNamed("silver")) {
                readTree(SILVER);
            } else if (isNamed("old")) {
                readTree(OLD);
            } else if (isNamed("sapling")) {
                readTree(SAPLING);
            } else if (isNamed("root")) {
                readRoot();
            } else if (isNamed("wind")) {
                readWind();
            } else if (isNamed("talk")) {
                readTalk();
            } else {
                fail(MISPLACED);
            }
        }

        private void readTree(int kind) {
            takeName(draft.treeCount < MOST_TREES, TOO_MANY);
            takeSign();
            if (fault == NO_FAULT) {
                draft.addTree(kind);
            }
        }

        private void readRoot() {
            takeName(draft.rootCount < MOST_ROOTS, TOO_MANY);
            int first = takeNumber(0, MOST_TREES - 1, NO_NUMBER);
            int second = takeNumber(0, MOST_TREES - 1, first);
            int length = takeNumber(1, HIGHEST_LENGTH, NO_NUMBER);
            takeSign();
            if (fault == NO_FAULT) {
                draft.addRoot(first, second, length);
            }
        }

        private void readWind() {
            takeName(!windTold, SECOND_WIND);
            draft.windNow = takeNumber(0, HIGHEST_WIND, NO_NUMBER);
            windTold = true;
            takeSign();
        }

        private void readTalk() {
            takeName(draft.talkCount < MOST_TALKS, TOO_MANY);
            int hour = takeNumber(0, HIGHEST_HOUR, NO_NUMBER);
            int speaker = takeNumber(0, MOST_TREES - 1, NO_NUMBER);
            int breath = takeNumber(1, HIGHEST_BREATH, NO_NUMBER);
            takeSign();
            if (fault == NO_FAULT) {
                draft.addTalk(hour, speaker, breath);
            }
        }

        private void takeName(boolean mayStand, int otherwise) {
            if (!mayStand) {
                fail(otherwise);
            }
            readToken();
        }

        private void takeSign() {
            if (tokenKind != SIGN) {
                fail(MISPLACED);
            }
            readToken();
        }

        private int takeNumber(int least, int most, int butNot) {
            int number = tokenKind == NUMBER ? value() : NO_NUMBER;
            if (number == NO_NUMBER) {
                fail(MISPLACED);
            } else if (!within(number, least, most) || number == butNot) {
                fail(OUT_OF_BOUNDS);
            }
            readToken();
            return number;
        }

        /** Behind a FAULT nothing more is read, so that what is met there can not be told instead. */
        private void readToken() {
            if (fault != NO_FAULT) {
                return;
            }
            tokenStart = endOfRun(tokenEnd, ' ', ' ');
            int nameEnd = endOfRun(tokenStart, 'a', 'z');
            int numberEnd = endOfRun(tokenStart, '0', '9');
            if (tokenStart >= tape.size) {
                setToken(END, tokenStart);
            } else if (nameEnd > tokenStart) {
                setToken(NAME, nameEnd);
            } else if (numberEnd > tokenStart + LONGEST_NUMBER) {
                fail(NO_TOKEN);
            } else if (numberEnd > tokenStart) {
                setToken(NUMBER, numberEnd);
            } else if (tape.bytes[tokenStart] == ';') {
                setToken(SIGN, tokenStart + 1);
            } else {
                fail(NO_TOKEN);
            }
        }

        private void setToken(int kind, int end) {
            tokenKind = kind;
            tokenEnd = end;
        }

        private int value() {
            int number = 0;
            for (int i = tokenStart; i < tokenEnd; i++) {
                number = 10 * number + tape.bytes[i] - '0';
            }
            return number;
        }

        private int endOfRun(int start, int least, int most) {
            int end = start;
            while (end < tape.size && tape.bytes[end] >= least && tape.bytes[end] <= most) {
                end++;
            }
            return end;
        }

        private boolean isNamed(String name) {
            boolean alike = tokenEnd - tokenStart == name.length();
            for (int i = 0; alike && i < name.length(); i++) {
                alike = tape.bytes[tokenStart + i] == name.charAt(i);
            }
            return alike;
        }
    }

    /** A row of CELLS of a lane, or nothing. */
    private static final class Sheet {
        private static final int NO_LANE = -1;

        int size;
        final int[] cells = new int[MOST_CELLS];
        private int lane = NO_LANE;

        boolean isNothing() {
            return lane == NO_LANE;
        }

        void renew(int newLane, int newSize) {
            lane = newLane;
            size = newSize;
            Arrays.fill(cells, 0);
        }

        /** What the machine finds, if so many CELLS from one on are touched. */
        int faultOfCells(int at, int many) {
            if (isNothing()) {
                return NULL_FAULT;
            }
            return within(at, 0, size - many) ? NO_FAULT : INDEX_FAULT;
        }

        /** Nothing can be taken as of any lane: the machine casts null, and finds NULL only then. */
        int faultOfReading(int asLane, int at) {
            if (!isNothing() && lane != asLane) {
                return CAST_FAULT;
            }
            return faultOfCells(at, CELLS_OF_A_TALK);
        }

        void put(int i, int v) {
            switch (lane) {
                case BYTES:
                    cells[i] = (byte) v;
                    break;
                case SHORTS:
                    cells[i] = (short) v;
                    break;
                default:
                    cells[i] = v;
                    break;
            }
        }
    }
}
