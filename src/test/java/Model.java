import java.util.ArrayList;
import java.util.Collections;
import java.util.List;
import java.util.TreeSet;

/**
 * The document said a second time, as slowly and as plainly as can be, to hold the class against:
 * texts for tales, sets for types, all recomputed for each call.
 */
final class Model {
    static final int NONE = -1, UNKNOWN = -1000000001, OUTSIDE = -1000000002, NOT = -1000000003, FULL = -1000000004;

    /** What a deed can change. */
    private static final class Lore {
        final List<String> tales = new ArrayList<>();
        final List<Integer> toldAt = new ArrayList<>();
        int[] costs = {2, 2, 1, 3};
        int kind = 0;
        TreeSet<String> roads = new TreeSet<>();

        Lore copy() {
            Lore c = new Lore();
            c.tales.addAll(tales);
            c.toldAt.addAll(toldAt);
            c.costs = costs.clone();
            c.kind = kind;
            c.roads.addAll(roads);
            return c;
        }
    }

    private static final class Node {
        int height;
        TreeSet<Integer> one;
        TreeSet<Integer> whole;
    }

    private static final class Row {
        final int sum;
        final int ways;
        final String steps;

        Row(int sum, int ways, String steps) {
            this.sum = sum;
            this.ways = ways;
            this.steps = steps;
        }
    }

    private Lore now = new Lore();
    private String typed = "";
    private long seed = 0;
    private final List<Lore> before = new ArrayList<>();
    private final List<int[]> book = new ArrayList<>();
    private final Lore[] images = new Lore[2];
    private final long[] imageSeeds = new long[2];

    private boolean isTale(int t) {
        return t >= 0 && t < now.tales.size();
    }

    private void deed() {
        before.add(now.copy());
        if (before.size() > 16) {
            before.remove(0);
        }
    }

    int feed(int letter) {
        if (letter < 'a' || letter > 'h') return OUTSIDE;
        if (typed.length() == 10) return FULL;
        typed += (char) letter;
        return typed.length();
    }

    int tale() {
        if (now.tales.size() == 8) return FULL;
        if (typed.isEmpty()) return NOT;
        deed();
        now.tales.add(typed);
        now.toldAt.add(0);
        typed = "";
        return now.tales.size() - 1;
    }

    int told(int what) {
        switch (what) {
            case 0: return now.tales.size();
            case 1: return typed.length();
            case 2: return now.kind;
            case 3: return nodes().size();
            case 4: return like();
            case 5: return common((1 << now.tales.size()) - 1);
            case 6: return book.size();
            case 7: return wrong();
            case 8: return before.size();
            default: return OUTSIDE;
        }
    }

    private int like() {
        if (typed.isEmpty()) return NONE;
        int best = NONE;
        for (int t = 0; t < now.tales.size(); t++) {
            if (best == NONE || apart(typed, now.tales.get(t)) < apart(typed, now.tales.get(best))) best = t;
        }
        return best;
    }

    private int wrong() {
        for (int k = 0; k < book.size(); k++) {
            int[] e = book.get(k);
            if (!isTale(e[0]) || !isTale(e[1])) return k;
            if (apart(now.tales.get(e[0]), now.tales.get(e[1])) != e[2]) return k;
        }
        return NONE;
    }

    int taleAt(int t, int what) {
        if (!isTale(t)) return UNKNOWN;
        if (what == 0) return now.tales.get(t).length();
        if (what == 1) return now.toldAt.get(t);
        if (what == 2 || what == 3) return wandered(now.toldAt.get(t), what - 2);
        return OUTSIDE;
    }

    int motif(int t, int i) {
        if (!isTale(t)) return UNKNOWN;
        String s = now.tales.get(t);
        return i >= 0 && i < s.length() ? s.charAt(i) - 'a' : NONE;
    }

    int costAt(int what) {
        return what >= 0 && what <= 3 ? now.costs[what] : OUTSIDE;
    }

    int pair(int t, int u, int what) {
        if (!isTale(t) || !isTale(u)) return UNKNOWN;
        if (what < 0 || what > 3) return OUTSIDE;
        String a = now.tales.get(t);
        String b = now.tales.get(u);
        if (what == 3) return inOrder(a, b);
        Row r = row(a, b);
        return what == 0 ? r.sum : what == 1 ? r.ways : r.steps.length();
    }

    int step(int t, int u, int i) {
        if (!isTale(t) || !isTale(u)) return UNKNOWN;
        String steps = row(now.tales.get(t), now.tales.get(u)).steps;
        return i >= 0 && i < steps.length() ? steps.charAt(i) - '0' : NONE;
    }

    private int apart(String a, String b) {
        return row(a, b).sum;
    }

    private Row row(String a, String b) {
        return row(a, b, new Row[a.length() + 1][b.length() + 1]);
    }

    private Row row(String a, String b, Row[][] known) {
        Row had = known[a.length()][b.length()];
        if (had != null) return had;
        List<Row> all = new ArrayList<>();
        if (a.isEmpty() && b.isEmpty()) all.add(new Row(0, 1, ""));
        if (!a.isEmpty() && !b.isEmpty()) {
            int far = Math.abs(a.charAt(0) - b.charAt(0));
            int change = Math.min(far * now.costs[2], now.costs[3]);
            all.add(before("0", change, row(a.substring(1), b.substring(1), known)));
        }
        if (!a.isEmpty()) all.add(before("1", now.costs[0], row(a.substring(1), b, known)));
        if (!b.isEmpty()) all.add(before("2", now.costs[0], row(a, b.substring(1), known)));
        if (a.length() > 1 && b.length() > 1) {
            String turned = new StringBuilder(a.substring(0, 2)).reverse().toString();
            if (b.startsWith(turned) && !a.startsWith(turned)) {
                all.add(before("3", now.costs[1], row(a.substring(2), b.substring(2), known)));
            }
        }
        Row best = bestOf(all);
        known[a.length()][b.length()] = best;
        return best;
    }

    private static Row before(String step, int cost, Row rest) {
        return new Row(cost + rest.sum, rest.ways, step + rest.steps);
    }

    private static Row bestOf(List<Row> all) {
        int sum = Integer.MAX_VALUE;
        for (Row r : all) sum = Math.min(sum, r.sum);
        int ways = 0;
        String steps = null;
        for (Row r : all) {
            if (r.sum != sum) continue;
            ways += r.ways;
            if (steps == null || r.steps.compareTo(steps) < 0) steps = r.steps;
        }
        return new Row(sum, ways, steps);
    }

    /** Goes through every choice of motifs of the first. */
    private static int inOrder(String a, String b) {
        int most = 0;
        for (int choice = 0; choice < 1 << a.length(); choice++) {
            int from = 0;
            boolean fits = Integer.bitCount(choice) > most;
            for (int i = 0; i < a.length() && fits; i++) {
                if ((choice >> i & 1) == 0) continue;
                from = b.indexOf(a.charAt(i), from) + 1;
                fits = from > 0;
            }
            if (fits) most = Integer.bitCount(choice);
        }
        return most;
    }

    /** How near two types are, times a number that makes every mean of at most 16 pairs whole. */
    private long nearness(TreeSet<Integer> one, TreeSet<Integer> other) {
        List<Integer> all = new ArrayList<>();
        long sum = 0;
        for (int t : one) {
            for (int u : other) {
                int d = apart(now.tales.get(t), now.tales.get(u));
                all.add(d);
                sum += d;
            }
        }
        long whole = 720720;
        if (now.kind == 0) return Collections.min(all) * whole;
        if (now.kind == 1) return Collections.max(all) * whole;
        return sum * whole / all.size();
    }

    private List<Node> nodes() {
        List<TreeSet<Integer>> types = new ArrayList<>();
        for (int t = 0; t < now.tales.size(); t++) types.add(new TreeSet<>(List.of(t)));
        List<Node> made = new ArrayList<>();
        while (types.size() > 1) {
            TreeSet<Integer> one = null;
            TreeSet<Integer> other = null;
            for (TreeSet<Integer> a : types) {
                for (TreeSet<Integer> b : types) {
                    if (a.first() < b.first() && (one == null || goesAhead(a, b, one, other))) {
                        one = a;
                        other = b;
                    }
                }
            }
            Node n = new Node();
            n.height = (int) (nearness(one, other) / 720720);
            n.one = one;
            n.whole = new TreeSet<>(one);
            n.whole.addAll(other);
            types.remove(one);
            types.remove(other);
            types.add(n.whole);
            made.add(n);
        }
        return made;
    }

    private boolean goesAhead(TreeSet<Integer> a, TreeSet<Integer> b, TreeSet<Integer> one, TreeSet<Integer> other) {
        long near = nearness(a, b);
        long best = nearness(one, other);
        if (near != best) return near < best;
        if (!a.first().equals(one.first())) return a.first() < one.first();
        return b.first() < other.first();
    }

    private static int bits(Iterable<Integer> set) {
        int bits = 0;
        for (int t : set) bits |= 1 << t;
        return bits;
    }

    int node(int n, int what) {
        List<Node> all = nodes();
        if (n < 0 || n >= all.size()) return UNKNOWN;
        Node node = all.get(n);
        switch (what) {
            case 0: return node.height;
            case 1: return bits(node.whole);
            case 2: return bits(node.one);
            case 3: return middle(bits(node.whole));
            default: return OUTSIDE;
        }
    }

    int types(int h, int what) {
        if (what < 0 || what > now.tales.size()) return UNKNOWN;
        if (h < 0 || h > 999) return OUTSIDE;
        List<TreeSet<Integer>> types = new ArrayList<>();
        for (int t = 0; t < now.tales.size(); t++) types.add(new TreeSet<>(List.of(t)));
        for (Node n : nodes()) {
            if (n.height > h) break;
            types.removeIf(type -> n.whole.containsAll(type));
            types.add(n.whole);
        }
        if (what == 0) return types.size();
        for (TreeSet<Integer> type : types) {
            if (type.contains(what - 1)) return bits(type);
        }
        return 0;
    }

    private List<Integer> talesOf(int set) {
        List<Integer> all = new ArrayList<>();
        for (int t = 0; t < 32; t++) {
            if ((set >>> t & 1) == 1) all.add(t);
        }
        return all;
    }

    private boolean known(int set) {
        for (int t : talesOf(set)) {
            if (!isTale(t)) return false;
        }
        return true;
    }

    int middle(int set) {
        if (!known(set)) return UNKNOWN;
        int best = NONE;
        int least = Integer.MAX_VALUE;
        for (int t : talesOf(set)) {
            int sum = 0;
            for (int u : talesOf(set)) sum += apart(now.tales.get(t), now.tales.get(u));
            if (sum < least) {
                least = sum;
                best = t;
            }
        }
        return best;
    }

    int common(int set) {
        if (!known(set)) return UNKNOWN;
        int have = 0;
        for (int m = 0; m < 8; m++) {
            boolean inAll = true;
            for (int t : talesOf(set)) inAll &= now.tales.get(t).indexOf('a' + m) >= 0;
            if (inAll) have |= 1 << m;
        }
        return have;
    }

    /** Puts by and by each road on a forest; a set of places hangs together if that takes one road less than places. */
    int wandered(int set, int what) {
        if (set < 0 || set > 255) return UNKNOWN;
        if (what < 0 || what > 1) return OUTSIDE;
        if (set == 0) return 0;
        for (int places = 1; places <= 8; places++) {
            for (int wider = 0; wider < 256; wider++) {
                if (Integer.bitCount(wider) != places || (wider & set) != set) continue;
                if (forest(wider) == places - 1) return what == 0 ? places - 1 : wider;
            }
        }
        return NONE;
    }

    private int forest(int set) {
        int[] head = {0, 1, 2, 3, 4, 5, 6, 7};
        int used = 0;
        for (String road : now.roads) {
            int p = road.charAt(0) - '0';
            int q = road.charAt(1) - '0';
            if ((set >> p & 1) == 0 || (set >> q & 1) == 0 || head[p] == head[q]) continue;
            int gone = head[q];
            for (int i = 0; i < 8; i++) {
                if (head[i] == gone) head[i] = head[p];
            }
            used++;
        }
        return used;
    }

    int take(int t) {
        if (!isTale(t)) return UNKNOWN;
        deed();
        now.tales.remove(t);
        now.toldAt.remove(t);
        return now.tales.size();
    }

    int cost(int what, int v) {
        if (what < 0 || what > 3 || v > 9 || v < (what == 2 ? 0 : 1)) return OUTSIDE;
        deed();
        int was = now.costs[what];
        now.costs[what] = v;
        return was;
    }

    int kind(int v) {
        if (v < 0 || v > 2) return OUTSIDE;
        deed();
        int was = now.kind;
        now.kind = v;
        return was;
    }

    int road(int p, int q, boolean is) {
        if (p < 0 || p > 7 || q < 0 || q > 7 || p == q) return UNKNOWN;
        deed();
        String name = "" + Math.min(p, q) + Math.max(p, q);
        if (is) now.roads.add(name);
        else now.roads.remove(name);
        return now.roads.size();
    }

    int at(int t, int set) {
        if (!isTale(t)) return UNKNOWN;
        if (set < 0 || set > 255) return OUTSIDE;
        deed();
        now.toldAt.set(t, set);
        return wandered(set, 0);
    }

    private int draw(int n) {
        seed = (seed * 1103515245L + 12345L) % (1L << 31);
        return (int) (seed / 65536 % n);
    }

    int drift(int n) {
        if (n < 1 || n > 8) return OUTSIDE;
        for (int k = 0; k < n; k++) {
            if (now.tales.size() == 8) break;
            deed();
            int length = draw(7) + 2;
            StringBuilder s = new StringBuilder();
            for (int i = 0; i < length; i++) s.append((char) ('a' + draw(5)));
            now.tales.add(s.toString());
            now.toldAt.add(draw(256));
        }
        return now.tales.size();
    }

    int undo(int n) {
        if (n < 1 || n > 16) return OUTSIDE;
        if (n > before.size()) return NOT;
        for (int k = 0; k < n; k++) now = before.remove(before.size() - 1);
        return now.tales.size();
    }

    int write(int t, int u, int v) {
        if (!isTale(t) || !isTale(u)) return UNKNOWN;
        if (book.size() == 20) return FULL;
        book.add(new int[] {t, u, v});
        return book.size();
    }

    int tear() {
        int had = book.size();
        book.clear();
        return had;
    }

    int seed(int v) {
        if (v < 0) return OUTSIDE;
        int was = (int) seed;
        seed = v;
        return was;
    }

    int keep(int i) {
        if (i < 0 || i > 1) return UNKNOWN;
        images[i] = now.copy();
        imageSeeds[i] = seed;
        before.clear();
        return 1;
    }

    int goBack(int i) {
        if (i < 0 || i > 1) return UNKNOWN;
        if (images[i] == null) return NOT;
        now = images[i].copy();
        seed = imageSeeds[i];
        before.clear();
        return 1;
    }
}
