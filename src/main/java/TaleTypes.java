/**
 * Tales as chains of motifs: lined up, joined to types, told at places along roads.
 * What each call answers is told in the document, promises 1 to 26.
 */
public final class TaleTypes {
    public static final int NONE = -1, UNKNOWN = -1000000001, OUTSIDE = -1000000002, NOT = -1000000003, FULL = -1000000004;

    private static final int MOST_TALES = 8;
    private static final int MOST_MOTIFS = 10;
    private static final int PLACES = 8;
    private static final int ALL_EIGHT = 255;
    private static final int FIRST_LETTER = 97;
    private static final int LAST_LETTER = 104;
    private static final int COSTS = 4;
    private static final int GAP = 0, TURN = 1, STEP = 2, MOST = 3;
    private static final int MOST_KIND = 2;
    private static final int MOST_HEIGHT = 999;
    private static final int MOST_DEEDS = 16;
    private static final int MOST_ENTRIES = 20;
    private static final int MOST_DRIFTS = 8;
    private static final int IMAGES = 2;

    /** A chain of motifs is one long: three bits a motif, and its length above bit 32; 0 is the empty one. */
    private static final int LENGTH_SHIFT = 32;
    private static final int MOTIF_BITS = 3;

    /** Farther than two tales can ever be apart. */
    private static final int TOO_DEAR = 1000000;

    private final State now = new State();
    private final Deeds deeds = new Deeds();
    private final Book book = new Book();
    private final Lineup lineup = new Lineup();
    private final Distances distances = new Distances();
    private final Tree tree = new Tree();
    private final Image[] images = new Image[IMAGES];
    private long typed = 0L;
    private int theSeed = 0;
    /** Whether distances and tree are those of what is so now: they are dear, and asked for far more often than changed. */
    private boolean measured = false;

    public TaleTypes() {
        for (int i = 0; i < IMAGES; i++) {
            images[i] = new Image();
        }
    }

    // ---- tales

    public int feed(int letter) {
        if (letter < FIRST_LETTER || letter > LAST_LETTER) {
            return OUTSIDE;
        }
        if (lengthOf(typed) >= MOST_MOTIFS) {
            return FULL;
        }
        typed = longer(typed, letter - FIRST_LETTER);
        return lengthOf(typed);
    }

    public int tale() {
        if (now.count >= MOST_TALES) {
            return FULL;
        }
        if (lengthOf(typed) == 0) {
            return NOT;
        }
        beginDeed();
        now.add(typed, 0);
        typed = 0L;
        return now.count - 1;
    }

    public int told(int what) {
        switch (what) {
            case 0: return now.count;
            case 1: return lengthOf(typed);
            case 2: return now.kind;
            case 3: return nodeCount();
            case 4: return likeTyped();
            case 5: return now.motifsOfAll(allTales());
            case 6: return book.size;
            case 7:
                measureAnew();
                return book.firstOtherwise(distances, now.count);
            case 8: return deeds.count;
            default: return OUTSIDE;
        }
    }

    public int taleAt(int t, int what) {
        if (!isTale(t)) {
            return UNKNOWN;
        }
        switch (what) {
            case 0: return lengthOf(now.tales[t]);
            case 1: return now.places[t];
            case 2: return roadsOf(hull(now.places[t], now.roads));
            case 3: return hull(now.places[t], now.roads);
            default: return OUTSIDE;
        }
    }

    public int motif(int t, int i) {
        if (!isTale(t)) {
            return UNKNOWN;
        }
        if (i < 0 || i >= lengthOf(now.tales[t])) {
            return NONE;
        }
        return motifOf(now.tales[t], i);
    }

    public int costAt(int what) {
        if (what < 0 || what >= COSTS) {
            return OUTSIDE;
        }
        return now.costs[what];
    }

    // ---- two tales

    public int pair(int t, int u, int what) {
        if (!isTale(t) || !isTale(u)) {
            return UNKNOWN;
        }
        if (what < 0 || what > 3) {
            return OUTSIDE;
        }
        lineup.lineUp(now.tales[t], now.tales[u], now.costs);
        switch (what) {
            case 0: return lineup.apart();
            case 1: return lineup.ways();
            case 2: return lineup.wayLength();
            default: return lineup.commonLength();
        }
    }

    public int step(int t, int u, int i) {
        if (!isTale(t) || !isTale(u)) {
            return UNKNOWN;
        }
        lineup.lineUp(now.tales[t], now.tales[u], now.costs);
        return lineup.stepOfWay(i);
    }

    // ---- types

    public int node(int n, int what) {
        if (n < 0 || n >= nodeCount()) {
            return UNKNOWN;
        }
        measureAnew();
        switch (what) {
            case 0: return tree.heights[n];
            case 1: return tree.wholes[n];
            case 2: return tree.leasts[n];
            case 3: return distances.middleOf(tree.wholes[n]);
            default: return OUTSIDE;
        }
    }

    public int types(int h, int what) {
        if (what < 0 || what > now.count) {
            return UNKNOWN;
        }
        if (h < 0 || h > MOST_HEIGHT) {
            return OUTSIDE;
        }
        measureAnew();
        if (what == 0) {
            return now.count - tree.nodesUpTo(h);
        }
        return tree.typeOf(what - 1, h);
    }

    public int middle(int set) {
        if (!areTales(set)) {
            return UNKNOWN;
        }
        measureAnew();
        return distances.middleOf(set);
    }

    public int common(int set) {
        if (!areTales(set)) {
            return UNKNOWN;
        }
        return now.motifsOfAll(set);
    }

    public int wandered(int set, int what) {
        if (!arePlaces(set)) {
            return UNKNOWN;
        }
        switch (what) {
            case 0: return roadsOf(hull(set, now.roads));
            case 1: return hull(set, now.roads);
            default: return OUTSIDE;
        }
    }

    // ---- deeds

    public int take(int t) {
        if (!isTale(t)) {
            return UNKNOWN;
        }
        beginDeed();
        now.remove(t);
        return now.count;
    }

    public int cost(int what, int v) {
        if (what < 0 || what >= COSTS) {
            return OUTSIDE;
        }
        int least = what == STEP ? 0 : 1;
        if (v < least || v > 9) {
            return OUTSIDE;
        }
        beginDeed();
        int was = now.costs[what];
        now.costs[what] = v;
        return was;
    }

    public int kind(int v) {
        if (v < 0 || v > MOST_KIND) {
            return OUTSIDE;
        }
        beginDeed();
        int was = now.kind;
        now.kind = v;
        return was;
    }

    public int road(int p, int q, boolean is) {
        if (!isPlace(p) || !isPlace(q) || p == q) {
            return UNKNOWN;
        }
        beginDeed();
        now.setRoad(p, q, is);
        return now.countRoads();
    }

    public int at(int t, int set) {
        if (!isTale(t)) {
            return UNKNOWN;
        }
        if (!arePlaces(set)) {
            return OUTSIDE;
        }
        beginDeed();
        now.places[t] = set;
        return roadsOf(hull(set, now.roads));
    }

    public int drift(int n) {
        if (n < 1 || n > MOST_DRIFTS) {
            return OUTSIDE;
        }
        for (int k = 0; k < n && now.count < MOST_TALES; k++) {
            beginDeed();
            addDrawn();
        }
        return now.count;
    }

    public int undo(int n) {
        if (n < 1 || n > MOST_DEEDS) {
            return OUTSIDE;
        }
        if (n > deeds.count) {
            return NOT;
        }
        deeds.takeBack(n, now);
        measured = false;
        return now.count;
    }

    // ---- the book

    public int write(int t, int u, int v) {
        if (!isTale(t) || !isTale(u)) {
            return UNKNOWN;
        }
        if (book.size >= MOST_ENTRIES) {
            return FULL;
        }
        book.add(t, u, v);
        return book.size;
    }

    public int tear() {
        int had = book.size;
        book.size = 0;
        return had;
    }

    // ---- images

    public int seed(int v) {
        if (v < 0) {
            return OUTSIDE;
        }
        int was = theSeed;
        theSeed = v;
        return was;
    }

    public int keep(int i) {
        if (i < 0 || i >= IMAGES) {
            return UNKNOWN;
        }
        Image image = images[i];
        image.state.become(now);
        image.seed = theSeed;
        image.kept = true;
        deeds.count = 0;
        return 1;
    }

    public int goBack(int i) {
        if (i < 0 || i >= IMAGES) {
            return UNKNOWN;
        }
        Image image = images[i];
        if (!image.kept) {
            return NOT;
        }
        now.become(image.state);
        theSeed = image.seed;
        deeds.count = 0;
        measured = false;
        return 1;
    }

    // ---- what is behind the calls

    private boolean isTale(int t) {
        return t >= 0 && t < now.count;
    }

    private int allTales() {
        return (1 << now.count) - 1;
    }

    private boolean areTales(int set) {
        return (set & ~allTales()) == 0;
    }

    private int nodeCount() {
        return now.count > 0 ? now.count - 1 : 0;
    }

    private static boolean isPlace(int p) {
        return p >= 0 && p < PLACES;
    }

    private static boolean arePlaces(int set) {
        return set >= 0 && set <= ALL_EIGHT;
    }

    /** Every deed begins here: what is so ahead of it is what undoing it comes back to. */
    private void beginDeed() {
        deeds.remember(now);
        measured = false;
    }

    private void measureAnew() {
        if (measured) {
            return;
        }
        distances.measure(now, lineup);
        tree.grow(distances, now.count, now.kind);
        measured = true;
    }

    private int likeTyped() {
        if (lengthOf(typed) == 0) {
            return NONE;
        }
        int like = NONE;
        int nearest = 0;
        for (int t = 0; t < now.count; t++) {
            lineup.lineUp(typed, now.tales[t], now.costs);
            if (like == NONE || lineup.apart() < nearest) {
                like = t;
                nearest = lineup.apart();
            }
        }
        return like;
    }

    private void addDrawn() {
        int length = draw(7) + 2;
        long chain = 0L;
        for (int i = 0; i < length; i++) {
            chain = longer(chain, draw(5));
        }
        now.add(chain, draw(256));
    }

    private int draw(int n) {
        long next = (long) theSeed * 1103515245L + 12345L;
        theSeed = (int) (next & 0x7fffffffL);
        return n > 0 ? theSeed / 65536 % n : 0;
    }

    private static int lengthOf(long chain) {
        return (int) (chain >>> LENGTH_SHIFT);
    }

    private static int motifOf(long chain, int i) {
        return (int) (chain >>> (MOTIF_BITS * i)) & 7;
    }

    private static long longer(long chain, int motif) {
        return (chain | ((long) motif << (MOTIF_BITS * lengthOf(chain)))) + (1L << LENGTH_SHIFT);
    }

    private static int motifsOf(long chain) {
        int set = 0;
        for (int i = 0; i < lengthOf(chain) && i < MOST_MOTIFS; i++) {
            set |= 1 << motifOf(chain, i);
        }
        return set;
    }

    /**
     * The places by which those of a set hang together with the fewest roads: places that hang
     * together need one road less than they are, so the fewest places do; NONE if none do.
     */
    private static int hull(int set, int[] roads) {
        int best = NONE;
        for (int wider = set; wider <= ALL_EIGHT; wider++) {
            boolean fewer = best == NONE || Integer.bitCount(wider) < Integer.bitCount(best);
            if ((wider & set) == set && fewer && hangTogether(wider, roads)) {
                best = wider;
            }
        }
        return best;
    }

    private static boolean hangTogether(int set, int[] roads) {
        int reached = set & -set;
        for (int round = 0; round < PLACES && reached != set; round++) {
            for (int p = 0; p < PLACES; p++) {
                if ((reached >> p & 1) == 1) {
                    reached |= roads[p] & set;
                }
            }
        }
        return reached == set;
    }

    private static int roadsOf(int hull) {
        if (hull == NONE) {
            return NONE;
        }
        return hull == 0 ? 0 : Integer.bitCount(hull) - 1;
    }

    /** All that deeds change, and undoing brings back. */
    private static final class State {
        private final long[] tales = new long[MOST_TALES];
        private final int[] places = new int[MOST_TALES];
        private final int[] costs = new int[COSTS];
        /** For each place the set of places to which a road goes from it. */
        private final int[] roads = new int[PLACES];
        private int count = 0;
        private int kind = 0;

        State() {
            costs[GAP] = 2;
            costs[TURN] = 2;
            costs[STEP] = 1;
            costs[MOST] = 3;
        }

        void become(State other) {
            System.arraycopy(other.tales, 0, tales, 0, MOST_TALES);
            System.arraycopy(other.places, 0, places, 0, MOST_TALES);
            System.arraycopy(other.costs, 0, costs, 0, COSTS);
            System.arraycopy(other.roads, 0, roads, 0, PLACES);
            count = other.count;
            kind = other.kind;
        }

        void add(long chain, int set) {
            if (count >= MOST_TALES) {
                return;
            }
            tales[count] = chain;
            places[count] = set;
            count++;
        }

        void remove(int t) {
            if (t < 0 || t >= count) {
                return;
            }
            count--;
            for (int later = t; later < count; later++) {
                tales[later] = tales[later + 1];
                places[later] = places[later + 1];
            }
        }

        void setRoad(int p, int q, boolean is) {
            if (is) {
                roads[p] |= 1 << q;
                roads[q] |= 1 << p;
            } else {
                roads[p] &= ~(1 << q);
                roads[q] &= ~(1 << p);
            }
        }

        int countRoads() {
            int ends = 0;
            for (int p = 0; p < PLACES; p++) {
                ends += Integer.bitCount(roads[p]);
            }
            return ends / 2;
        }

        int motifsOfAll(int set) {
            int inAll = ALL_EIGHT;
            for (int t = 0; t < count; t++) {
                if ((set >> t & 1) == 1) {
                    inAll &= motifsOf(tales[t]);
                }
            }
            return inAll;
        }
    }

    /** What was so ahead of each of the latest deeds; when there is no room, the oldest makes it. */
    private static final class Deeds {
        private final State[] before = new State[MOST_DEEDS];
        private int count = 0;
        private int next = 0;

        Deeds() {
            for (int i = 0; i < MOST_DEEDS; i++) {
                before[i] = new State();
            }
        }

        void remember(State now) {
            before[next].become(now);
            next = (next + 1) % MOST_DEEDS;
            count = Math.min(count + 1, MOST_DEEDS);
        }

        void takeBack(int n, State now) {
            if (n < 1 || n > count) {
                return;
            }
            next = (next + MOST_DEEDS - n) % MOST_DEEDS;
            count -= n;
            now.become(before[next]);
        }
    }

    private static final class Image {
        private final State state = new State();
        private int seed = 0;
        private boolean kept = false;
    }

    /** Entries name tales by their numbers, whatever tale bears such a number later. */
    private static final class Book {
        private final int[] firsts = new int[MOST_ENTRIES];
        private final int[] others = new int[MOST_ENTRIES];
        private final int[] says = new int[MOST_ENTRIES];
        private int size = 0;

        void add(int t, int u, int v) {
            if (size >= MOST_ENTRIES) {
                return;
            }
            firsts[size] = t;
            others[size] = u;
            says[size] = v;
            size++;
        }

        int firstOtherwise(Distances distances, int tales) {
            for (int k = 0; k < size; k++) {
                boolean gone = firsts[k] >= tales || others[k] >= tales;
                if (gone || distances.between(firsts[k], others[k]) != says[k]) {
                    return k;
                }
            }
            return NONE;
        }
    }

    /** Two chains lined up, from their ends back, so that the least row of steps can be read forward. */
    private static final class Lineup {
        private static final int STEPS = 4;
        private static final int SIDE = MOST_MOTIFS + 1;
        private static final int MOST_STEPS = 2 * MOST_MOTIFS;
        /** How many motifs each step takes of the first, and of the other. */
        private static final int[] OF_FIRST = {1, 1, 0, 2};
        private static final int[] OF_OTHER = {1, 0, 1, 2};

        private final int[] first = new int[MOST_MOTIFS];
        private final int[] other = new int[MOST_MOTIFS];
        private final int[] costs = new int[COSTS];
        /** For what is left from motif i of the first and j of the other on, at i * SIDE + j. */
        private final int[] least = new int[SIDE * SIDE];
        private final int[] rows = new int[SIDE * SIDE];
        private final int[] shared = new int[SIDE * SIDE];
        private final int[] way = new int[MOST_STEPS];
        private int firstLength = 0;
        private int otherLength = 0;

        void lineUp(long a, long b, int[] prices) {
            firstLength = spell(a, first);
            otherLength = spell(b, other);
            System.arraycopy(prices, 0, costs, 0, COSTS);
            for (int i = firstLength; i >= 0; i--) {
                for (int j = otherLength; j >= 0; j--) {
                    least[i * SIDE + j] = leastFrom(i, j);
                }
            }
        }

        int apart() {
            return least[0];
        }

        int ways() {
            for (int i = firstLength; i >= 0; i--) {
                for (int j = otherLength; j >= 0; j--) {
                    rows[i * SIDE + j] = rowsFrom(i, j);
                }
            }
            return rows[0];
        }

        int wayLength() {
            int i = 0;
            int j = 0;
            for (int k = 0; k < MOST_STEPS; k++) {
                int s = leastStep(i, j);
                if (s == NONE) {
                    return k;
                }
                way[k] = s;
                i += OF_FIRST[s];
                j += OF_OTHER[s];
            }
            return MOST_STEPS;
        }

        int stepOfWay(int k) {
            int length = wayLength();
            return k >= 0 && k < length ? way[k] : NONE;
        }

        int commonLength() {
            for (int i = firstLength; i >= 0; i--) {
                for (int j = otherLength; j >= 0; j--) {
                    shared[i * SIDE + j] = sharedFrom(i, j);
                }
            }
            return shared[0];
        }

        private static int spell(long chain, int[] motifs) {
            int length = Math.min(lengthOf(chain), MOST_MOTIFS);
            for (int i = 0; i < length; i++) {
                motifs[i] = motifOf(chain, i);
            }
            return length;
        }

        private int leastFrom(int i, int j) {
            if (i == firstLength && j == otherLength) {
                return 0;
            }
            int best = TOO_DEAR;
            for (int s = 0; s < STEPS; s++) {
                best = Math.min(best, sumThrough(i, j, s));
            }
            return best;
        }

        private int rowsFrom(int i, int j) {
            if (i == firstLength && j == otherLength) {
                return 1;
            }
            int count = 0;
            for (int s = 0; s < STEPS; s++) {
                if (sumThrough(i, j, s) == least[i * SIDE + j]) {
                    count += rows[(i + OF_FIRST[s]) * SIDE + j + OF_OTHER[s]];
                }
            }
            return count;
        }

        /** The least sum from i and j on, if step s comes first; TOO_DEAR if it can't. */
        private int sumThrough(int i, int j, int s) {
            int nextI = i + OF_FIRST[s];
            int nextJ = j + OF_OTHER[s];
            if (nextI > firstLength || nextJ > otherLength) {
                return TOO_DEAR;
            }
            int rest = least[nextI * SIDE + nextJ];
            if (s == 0) {
                int change = Math.abs(first[i] - other[j]) * costs[STEP];
                return rest + Math.min(change, costs[MOST]);
            }
            if (s == 3) {
                return isTurned(i, j) ? rest + costs[TURN] : TOO_DEAR;
            }
            return rest + costs[GAP];
        }

        /** Only asked where both have two motifs left. */
        private boolean isTurned(int i, int j) {
            return first[i] == other[j + 1] && first[i + 1] == other[j] && first[i] != first[i + 1];
        }

        /** Of the steps that keep the sum least the one of the least number; NONE at both ends. */
        private int leastStep(int i, int j) {
            if (i == firstLength && j == otherLength) {
                return NONE;
            }
            for (int s = 0; s < STEPS; s++) {
                if (sumThrough(i, j, s) == least[i * SIDE + j]) {
                    return s;
                }
            }
            return NONE;
        }

        private int sharedFrom(int i, int j) {
            if (i == firstLength || j == otherLength) {
                return 0;
            }
            if (first[i] == other[j]) {
                return 1 + shared[(i + 1) * SIDE + j + 1];
            }
            return Math.max(shared[(i + 1) * SIDE + j], shared[i * SIDE + j + 1]);
        }
    }

    /** How far each two tales are apart. */
    private static final class Distances {
        private final int[] apart = new int[MOST_TALES * MOST_TALES];

        void measure(State state, Lineup lineup) {
            for (int t = 0; t < state.count; t++) {
                for (int u = t; u < state.count; u++) {
                    lineup.lineUp(state.tales[t], state.tales[u], state.costs);
                    apart[t * MOST_TALES + u] = lineup.apart();
                    apart[u * MOST_TALES + t] = lineup.apart();
                }
            }
        }

        int between(int t, int u) {
            return apart[t * MOST_TALES + u];
        }

        int middleOf(int set) {
            int middle = NONE;
            int leastSum = 0;
            for (int t = 0; t < MOST_TALES; t++) {
                if ((set >> t & 1) == 1) {
                    int sum = sumTo(t, set);
                    if (middle == NONE || sum < leastSum) {
                        middle = t;
                        leastSum = sum;
                    }
                }
            }
            return middle;
        }

        private int sumTo(int t, int set) {
            int sum = 0;
            for (int u = 0; u < MOST_TALES; u++) {
                if ((set >> u & 1) == 1) {
                    sum += between(t, u);
                }
            }
            return sum;
        }
    }

    /** The tree of all joinings. */
    private static final class Tree {
        private final int[] heights = new int[MOST_TALES];
        private final int[] wholes = new int[MOST_TALES];
        /** Of the two types that were joined the one with the least tale. */
        private final int[] leasts = new int[MOST_TALES];
        /** The types that there are while joining, by their least tales. */
        private final int[] types = new int[MOST_TALES];
        private int nodes = 0;
        /** How near two types are, as a fraction. */
        private int over = 0;
        private int under = 1;
        private int nearestOver = 0;
        private int nearestUnder = 1;
        private int nearestOne = 0;
        private int nearestOther = 0;

        void grow(Distances distances, int tales, int kind) {
            nodes = 0;
            for (int t = 0; t < tales && t < MOST_TALES; t++) {
                types[t] = 1 << t;
            }
            for (int left = tales; left > 1; left--) {
                findNearest(distances, left, kind);
                joinNearest(left);
            }
        }

        int nodesUpTo(int h) {
            int count = 0;
            while (count < nodes && heights[count] <= h) {
                count++;
            }
            return count;
        }

        int typeOf(int t, int h) {
            int type = 1 << t;
            int joined = nodesUpTo(h);
            for (int n = 0; n < joined; n++) {
                if ((wholes[n] >> t & 1) == 1) {
                    type = wholes[n];
                }
            }
            return type;
        }

        private void findNearest(Distances distances, int left, int kind) {
            boolean found = false;
            for (int i = 0; i < left; i++) {
                for (int j = i + 1; j < left; j++) {
                    compareTypes(distances, types[i], types[j], kind);
                    if (!found || over * nearestUnder < nearestOver * under) {
                        found = true;
                        nearestOver = over;
                        nearestUnder = under;
                        nearestOne = i;
                        nearestOther = j;
                    }
                }
            }
        }

        /** Puts how near two types are in over and under. */
        private void compareTypes(Distances distances, int one, int other, int kind) {
            int least = TOO_DEAR;
            int greatest = 0;
            int sum = 0;
            for (int t = 0; t < MOST_TALES; t++) {
                if ((one >> t & 1) == 0) {
                    continue;
                }
                for (int u = 0; u < MOST_TALES; u++) {
                    if ((other >> u & 1) == 1) {
                        int apart = distances.between(t, u);
                        least = Math.min(least, apart);
                        greatest = Math.max(greatest, apart);
                        sum += apart;
                    }
                }
            }
            under = 1;
            if (kind == 0) {
                over = least;
            } else if (kind == 1) {
                over = greatest;
            } else {
                over = sum;
                under = Integer.bitCount(one) * Integer.bitCount(other);
            }
        }

        /** The joined type stands where the lesser stood, so that types stay in order. */
        private void joinNearest(int left) {
            heights[nodes] = nearestUnder > 0 ? nearestOver / nearestUnder : 0;
            leasts[nodes] = types[nearestOne];
            types[nearestOne] |= types[nearestOther];
            wholes[nodes] = types[nearestOne];
            nodes++;
            for (int i = nearestOther; i < left - 1; i++) {
                types[i] = types[i + 1];
            }
        }
    }
}
