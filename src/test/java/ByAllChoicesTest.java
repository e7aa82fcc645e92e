import java.util.ArrayList;
import java.util.Arrays;
import java.util.List;
import java.util.Random;
import java.util.TreeSet;

/**
 * What the document says to be the least, the most or so many, held against all that there is to choose from:
 * every row of steps by which two tales come to their ends, every row of motifs that a tale has in order,
 * every choice of roads, and for KIND 0 the tales that hang together by pairs that are near enough.
 */
public final class ByAllChoicesTest {
    private static final int NONE = -1;
    private static final int MOST_ROADS = 10;

    private final Check check = new Check();
    private final Random random = new Random(20261118L);

    /** How cheap the rows of steps are that were gone through so far, how many are that, and the first of them in order. */
    private int leastSum;
    private int ways;
    private String theWay;

    public static void main(String[] args) {
        ByAllChoicesTest test = new ByAllChoicesTest();
        for (int k = 0; k < 600; k++) {
            test.twoTales(k);
        }
        for (int k = 0; k < 60; k++) {
            test.roads(k);
        }
        for (int k = 0; k < 60; k++) {
            test.nearEnough(k);
        }
        test.check.end("ByAllChoicesTest");
    }

    private String letters(int most, int reach) {
        StringBuilder s = new StringBuilder();
        int length = 1 + random.nextInt(most);
        for (int i = 0; i < length; i++) {
            s.append((char) ('a' + random.nextInt(reach)));
        }
        return s.toString();
    }

    private int[] costs(Run run) {
        int[] costs = new int[4];
        for (int what = 0; what < 4; what++) {
            int least = what == 2 ? 0 : 1;
            costs[what] = least + random.nextInt(random.nextBoolean() ? 3 : 10 - least);
            run.ask("cost " + what + " " + costs[what]);
        }
        return costs;
    }

    private void twoTales(int k) {
        Run run = new Run();
        int reach = 2 + k % 7;
        String a = letters(5, reach);
        String b = letters(5, reach);
        run.tell(a);
        run.tell(b);
        int[] costs = costs(run);
        leastSum = Integer.MAX_VALUE;
        ways = 0;
        theWay = "";
        goThrough(a, b, costs, 0, "");
        String pair = a + ", " + b + " at " + List.of(costs[0], costs[1], costs[2], costs[3]);
        check.due("APART of " + pair, run.ask("pair 0 1 0"), leastSum);
        check.due("WAYS of " + pair, run.ask("pair 0 1 1"), ways);
        check.due("steps of THE WAY of " + pair, run.ask("pair 0 1 2"), theWay.length());
        for (int i = 0; i < theWay.length(); i++) {
            check.due("step " + i + " of " + pair, run.ask("step 0 1 " + i), theWay.charAt(i) - '0');
        }
        check.due("no more steps of " + pair, run.ask("step 0 1 " + theWay.length()), NONE);
        check.due("COMMON of " + pair, run.ask("pair 0 1 3"), longestOfBoth(a, b));
    }

    private void goThrough(String a, String b, int[] costs, int sum, String steps) {
        if (a.isEmpty() && b.isEmpty()) {
            atBothEnds(sum, steps);
            return;
        }
        if (!a.isEmpty() && !b.isEmpty()) {
            int far = Math.abs(a.charAt(0) - b.charAt(0));
            goThrough(a.substring(1), b.substring(1), costs, sum + Math.min(far * costs[2], costs[3]), steps + "0");
        }
        if (!a.isEmpty()) goThrough(a.substring(1), b, costs, sum + costs[0], steps + "1");
        if (!b.isEmpty()) goThrough(a, b.substring(1), costs, sum + costs[0], steps + "2");
        boolean two = a.length() > 1 && b.length() > 1 && a.charAt(0) != a.charAt(1);
        if (two && a.charAt(0) == b.charAt(1) && a.charAt(1) == b.charAt(0)) {
            goThrough(a.substring(2), b.substring(2), costs, sum + costs[1], steps + "3");
        }
    }

    private void atBothEnds(int sum, String steps) {
        if (sum > leastSum) return;
        if (sum < leastSum) {
            leastSum = sum;
            ways = 0;
            theWay = steps;
        }
        ways++;
        if (steps.compareTo(theWay) < 0) theWay = steps;
    }

    private static int longestOfBoth(String a, String b) {
        TreeSet<String> both = inOrder(a);
        both.retainAll(inOrder(b));
        int longest = 0;
        for (String s : both) longest = Math.max(longest, s.length());
        return longest;
    }

    private static TreeSet<String> inOrder(String tale) {
        TreeSet<String> all = new TreeSet<>();
        for (int choice = 0; choice < 1 << tale.length(); choice++) {
            StringBuilder s = new StringBuilder();
            for (int i = 0; i < tale.length(); i++) {
                if ((choice >> i & 1) == 1) s.append(tale.charAt(i));
            }
            all.add(s.toString());
        }
        return all;
    }

    private void roads(int k) {
        List<int[]> roads = new ArrayList<>();
        StringBuilder script = new StringBuilder();
        int many = k % (MOST_ROADS + 1);
        while (roads.size() < many) {
            int p = random.nextInt(8);
            int q = random.nextInt(8);
            boolean is = roads.stream().anyMatch(r -> (1 << r[0] | 1 << r[1]) == (1 << p | 1 << q));
            if (p == q || is) continue;
            roads.add(new int[] {p, q});
            script.append("road ").append(p).append(' ').append(q).append(" 1;");
        }
        Script built = new Script(script.toString(), script.toString());
        int[] fewest = new int[256];
        int[] least = new int[256];
        chooseRoads(roads, fewest, least);
        Run asked = built.run();
        Run which = built.run();
        for (int set = 0; set < 256; set++) {
            check.due(script + " WANDERED of " + set, asked.ask("wandered " + set + " 0"), fewest[set]);
            check.due(script + " by which, of " + set, which.ask("wandered " + set + " 1"), least[set]);
        }
    }

    /** For each set of places the fewest roads that hold it together, and the places of these and of the set. */
    private static void chooseRoads(List<int[]> roads, int[] fewest, int[] least) {
        Arrays.fill(fewest, NONE);
        Arrays.fill(least, NONE);
        for (int choice = 0; choice < 1 << roads.size(); choice++) {
            int count = Integer.bitCount(choice);
            int[] together = {1, 2, 4, 8, 16, 32, 64, 128};
            int touched = 0;
            for (int r = 0; r < roads.size(); r++) {
                if ((choice >> r & 1) == 0) continue;
                int[] road = roads.get(r);
                touched |= 1 << road[0] | 1 << road[1];
                int joined = together[road[0]] | together[road[1]];
                for (int p = 0; p < 8; p++) {
                    if ((joined >> p & 1) == 1) together[p] = joined;
                }
            }
            for (int set = 0; set < 256; set++) {
                if (!within(set, together)) continue;
                boolean fewer = fewest[set] == NONE || count < fewest[set];
                boolean lesser = count == fewest[set] && (touched | set) < least[set];
                if (fewer || lesser) {
                    fewest[set] = count;
                    least[set] = touched | set;
                }
            }
        }
    }

    private static boolean within(int set, int[] together) {
        if (set == 0) return true;
        return (set & ~together[Integer.numberOfTrailingZeros(set)]) == 0;
    }

    /** Of KIND 0 a type at h is what hangs together by pairs that are h apart at most. */
    private void nearEnough(int k) {
        int tales = 1 + k % 8;
        Run run = new Run();
        for (int t = 0; t < tales; t++) {
            run.tell(letters(6, 3 + k % 4));
        }
        costs(run);
        int[][] apart = new int[tales][tales];
        for (int t = 0; t < tales; t++) {
            for (int u = 0; u < tales; u++) {
                apart[t][u] = run.ask("pair " + t + " " + u + " 0");
            }
        }
        for (int h = 0; h < 14; h++) {
            TreeSet<Integer> types = new TreeSet<>();
            for (int t = 0; t < tales; t++) {
                int type = nearTo(t, apart, h);
                types.add(type);
                check.due("run " + k + ": types(" + h + ", " + (t + 1) + ")", run.ask("types " + h + " " + (t + 1)), type);
            }
            check.due("run " + k + ": types(" + h + ", 0)", run.ask("types " + h + " 0"), types.size());
        }
    }

    private static int nearTo(int first, int[][] apart, int h) {
        int type = 1 << first;
        for (int round = 0; round < apart.length; round++) {
            for (int t = 0; t < apart.length; t++) {
                for (int u = 0; u < apart.length; u++) {
                    if ((type >> t & 1) == 1 && apart[t][u] <= h) type |= 1 << u;
                }
            }
        }
        return type;
    }
}
