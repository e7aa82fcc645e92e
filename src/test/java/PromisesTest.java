/** Each promise by hand: ordinary inputs, the edges that the document names, wrong inputs. */
public final class PromisesTest {
    private static final int NONE = -1, UNKNOWN = -1000000001, OUTSIDE = -1000000002, NOT = -1000000003, FULL = -1000000004;
    private static final int MIN = Integer.MIN_VALUE, MAX = Integer.MAX_VALUE;

    private final Check check = new Check();
    private String promise = "";

    public static void main(String[] args) {
        PromisesTest t = new PromisesTest();
        t.constants();
        t.newObject();
        t.feed();
        t.tale();
        t.told();
        t.toldLike();
        t.toldWrong();
        t.taleAt();
        t.motif();
        t.costAt();
        t.pair();
        t.pairTurned();
        t.pairCosts();
        t.pairLong();
        t.step();
        t.node();
        t.nodeKinds();
        t.nodeFractions();
        t.types();
        t.middle();
        t.common();
        t.wandered();
        t.take();
        t.cost();
        t.kind();
        t.road();
        t.at();
        t.drift();
        t.undo();
        t.undoKeepsSixteen();
        t.undoEachDeed();
        t.refusedIsNoDeed();
        t.write();
        t.tear();
        t.seed();
        t.keep();
        t.goBack();
        t.check.end("PromisesTest");
    }

    private void due(String call, int got, int want) {
        check.due(promise + ": " + call, got, want);
    }

    private static void type(TaleTypes x, String letters) {
        for (int i = 0; i < letters.length(); i++) {
            x.feed(letters.charAt(i));
        }
    }

    private static TaleTypes with(String... tales) {
        TaleTypes x = new TaleTypes();
        for (String t : tales) {
            type(x, t);
            x.tale();
        }
        return x;
    }

    private void constants() {
        promise = "constants";
        due("NONE", TaleTypes.NONE, NONE);
        due("UNKNOWN", TaleTypes.UNKNOWN, UNKNOWN);
        due("OUTSIDE", TaleTypes.OUTSIDE, OUTSIDE);
        due("NOT", TaleTypes.NOT, NOT);
        due("FULL", TaleTypes.FULL, FULL);
    }

    private void newObject() {
        promise = "promise 1";
        TaleTypes x = new TaleTypes();
        int[] toldAtFirst = {0, 0, 0, 0, NONE, 255, 0, NONE, 0};
        for (int what = 0; what < toldAtFirst.length; what++) {
            due("told(" + what + ")", x.told(what), toldAtFirst[what]);
        }
        int[] costs = {2, 2, 1, 3};
        for (int what = 0; what < costs.length; what++) {
            due("costAt(" + what + ")", x.costAt(what), costs[what]);
        }
        due("no roads", x.wandered(3, 0), NONE);
        due("the seed", x.seed(5), 0);
        due("no image 0", x.goBack(0), NOT);
        due("no image 1", x.goBack(1), NOT);
        due("nothing to undo", x.undo(1), NOT);
        due("no node", x.node(0, 0), UNKNOWN);
        due("no types", x.types(0, 0), 0);
        due("no tale", x.taleAt(0, 0), UNKNOWN);
        TaleTypes y = new TaleTypes();
        due("another object stands by itself", y.seed(0), 0);
    }

    private void feed() {
        promise = "promise 2";
        TaleTypes x = new TaleTypes();
        due("feed(96)", x.feed(96), OUTSIDE);
        due("feed(105)", x.feed(105), OUTSIDE);
        due("feed(MIN)", x.feed(MIN), OUTSIDE);
        due("feed(MAX)", x.feed(MAX), OUTSIDE);
        due("nothing came", x.told(1), 0);
        for (int k = 1; k <= 10; k++) {
            due("feed", x.feed(k % 2 == 0 ? 97 : 104), k);
        }
        due("the eleventh", x.feed(97), FULL);
        due("OUTSIDE ahead of FULL", x.feed(105), OUTSIDE);
        due("ten are typed", x.told(1), 10);
        x.tale();
        due("h first", x.motif(0, 0), 7);
        due("a behind", x.motif(0, 1), 0);
        due("the tenth", x.motif(0, 9), 0);
    }

    private void tale() {
        promise = "promise 3";
        TaleTypes x = new TaleTypes();
        due("nothing typed", x.tale(), NOT);
        for (int t = 0; t < 8; t++) {
            x.feed(97 + t);
            due("tale()", x.tale(), t);
            due("nothing is typed then", x.told(1), 0);
            due("told nowhere", x.taleAt(t, 1), 0);
        }
        due("FULL ahead of NOT", x.tale(), FULL);
        x.feed(97);
        due("FULL", x.tale(), FULL);
        due("what is typed stays", x.told(1), 1);
        x.take(0);
        due("room again", x.tale(), 7);
        due("tale 7 is a", x.motif(7, 0), 0);
    }

    private void told() {
        promise = "promise 4";
        TaleTypes x = with("abc", "bcd", "cdb");
        x.feed('e');
        x.kind(2);
        x.write(0, 0, 0);
        x.write(0, 1, 77);
        int[] want = {3, 1, 2, 2, 1, 2 | 4, 2, 1, 4};
        for (int what = 0; what < want.length; what++) {
            due("told(" + what + ")", x.told(what), want[what]);
        }
        due("told(-1)", x.told(-1), OUTSIDE);
        due("told(9)", x.told(9), OUTSIDE);
        due("told(MIN)", x.told(MIN), OUTSIDE);
        due("told(MAX)", x.told(MAX), OUTSIDE);
        TaleTypes one = with("a");
        due("nodes of one tale", one.told(3), 0);
    }

    private void toldLike() {
        promise = "promise 4, LIKE";
        TaleTypes x = new TaleTypes();
        type(x, "ab");
        due("no tale", x.told(4), NONE);
        x = with("abcd", "ba", "ab", "ab");
        due("nothing typed", x.told(4), NONE);
        type(x, "ab");
        due("of like ones the least", x.told(4), 2);
        x.feed('c');
        due("abc: abcd and ab are as near", x.told(4), 0);
        x.feed('d');
        due("abcd", x.told(4), 0);
        x.cost(2, 0);
        x.cost(0, 9);
        due("abcd, changes for nothing", x.told(4), 0);
        x.take(0);
        due("tales have other numbers", x.told(4), 0);
    }

    private void toldWrong() {
        promise = "promise 4, WRONG";
        TaleTypes x = with("ab", "ba", "h");
        x.write(0, 1, 2);
        x.write(2, 2, 0);
        x.write(0, 2, x.pair(0, 2, 0));
        due("none is wrong", x.told(7), NONE);
        x.write(1, 0, MIN);
        due("the fourth is", x.told(7), 3);
        x.cost(2, 2);
        x.cost(1, 1);
        due("turned is cheaper now", x.told(7), 0);
        x.undo(2);
        due("as ahead of it", x.told(7), 3);
        x.take(2);
        due("one that there is no more", x.told(7), 1);
        type(x, "c");
        x.tale();
        due("entries name numbers: a tale 2 is again", x.told(7), 2);
        x.take(0);
        x.take(0);
        x.take(0);
        due("no tales", x.told(7), 0);
        TaleTypes y = with("ab", "ba");
        y.write(0, 1, 2);
        y.told(7);
        y.take(1);
        due("the other is no more", y.told(7), 0);
        y.undo(1);
        y.tear();
        y.write(1, 0, 2);
        due("as it was", y.told(7), NONE);
        y.take(0);
        due("the first is no more", y.told(7), 0);
        due("the book stays", x.told(6), 4);
    }

    private void taleAt() {
        promise = "promise 5";
        TaleTypes x = with("abcdefghab", "c");
        x.road(0, 1, true);
        x.road(1, 2, true);
        x.at(0, 5);
        x.at(1, 9);
        int[] first = {10, 5, 2, 7};
        int[] other = {1, 9, NONE, NONE};
        for (int what = 0; what < 4; what++) {
            due("taleAt(0, " + what + ")", x.taleAt(0, what), first[what]);
            due("taleAt(1, " + what + ")", x.taleAt(1, what), other[what]);
        }
        due("taleAt(0, 4)", x.taleAt(0, 4), OUTSIDE);
        due("taleAt(0, -1)", x.taleAt(0, -1), OUTSIDE);
        due("taleAt(2, 0)", x.taleAt(2, 0), UNKNOWN);
        due("taleAt(-1, 0)", x.taleAt(-1, 0), UNKNOWN);
        due("UNKNOWN ahead of OUTSIDE", x.taleAt(MAX, MIN), UNKNOWN);
        x.road(0, 1, false);
        due("the road is gone", x.taleAt(0, 2), NONE);
    }

    private void motif() {
        promise = "promise 6";
        TaleTypes x = with("hgfedcbaha");
        int[] want = {7, 6, 5, 4, 3, 2, 1, 0, 7, 0};
        for (int i = 0; i < want.length; i++) {
            due("motif(0, " + i + ")", x.motif(0, i), want[i]);
        }
        due("motif(0, 10)", x.motif(0, 10), NONE);
        due("motif(0, -1)", x.motif(0, -1), NONE);
        due("motif(0, MAX)", x.motif(0, MAX), NONE);
        due("motif(0, MIN)", x.motif(0, MIN), NONE);
        due("motif(1, 0)", x.motif(1, 0), UNKNOWN);
        due("motif(-1, 0)", x.motif(-1, 0), UNKNOWN);
    }

    private void costAt() {
        promise = "promise 7";
        TaleTypes x = new TaleTypes();
        x.cost(0, 5);
        x.cost(1, 6);
        x.cost(2, 7);
        x.cost(3, 8);
        for (int what = 0; what < 4; what++) {
            due("costAt(" + what + ")", x.costAt(what), 5 + what);
        }
        due("costAt(-1)", x.costAt(-1), OUTSIDE);
        due("costAt(4)", x.costAt(4), OUTSIDE);
        due("costAt(MIN)", x.costAt(MIN), OUTSIDE);
    }

    private void pair() {
        promise = "promise 8";
        TaleTypes x = with("abcd", "acd", "bdah", "a");
        int[] want = {2, 1, 4, 3};
        for (int what = 0; what < 4; what++) {
            due("pair(0, 1, " + what + ")", x.pair(0, 1, what), want[what]);
            due("pair(1, 0, " + what + ")", x.pair(1, 0, what), want[what]);
        }
        int[] same = {0, 1, 4, 4};
        for (int what = 0; what < 4; what++) {
            due("pair(0, 0, " + what + ")", x.pair(0, 0, what), same[what]);
        }
        due("common of abcd, bdah", x.pair(0, 2, 3), 2);
        due("a in abcd: three are left out", x.pair(0, 3, 0), 6);
        due("in one way", x.pair(0, 3, 1), 1);
        due("pair(0, 1, 4)", x.pair(0, 1, 4), OUTSIDE);
        due("pair(0, 1, -1)", x.pair(0, 1, -1), OUTSIDE);
        due("pair(4, 0, 0)", x.pair(4, 0, 0), UNKNOWN);
        due("pair(0, 4, 0)", x.pair(0, 4, 0), UNKNOWN);
        due("pair(-1, 0, 0)", x.pair(-1, 0, 0), UNKNOWN);
        due("pair(0, -1, 0)", x.pair(0, -1, 0), UNKNOWN);
        due("UNKNOWN ahead of OUTSIDE", x.pair(0, MIN, MAX), UNKNOWN);
    }

    private void pairTurned() {
        promise = "promise 8, turned";
        TaleTypes x = with("ah", "ha", "aa", "aha");
        due("apart", x.pair(0, 1, 0), 2);
        due("turned only", x.pair(0, 1, 1), 1);
        due("one step", x.pair(0, 1, 2), 1);
        TaleTypes y = with("ab", "ca", "bc");
        y.cost(1, 1);
        due("half turned is not: ab, ca", y.pair(0, 1, 0), 3);
        due("half turned is not: ab, bc", y.pair(0, 2, 0), 2);
        x.cost(1, 9);
        due("left out and put in", x.pair(0, 1, 0), 4);
        due("in two ways", x.pair(0, 1, 1), 2);
        due("three steps", x.pair(0, 1, 2), 3);
        x.cost(1, 1);
        x.cost(2, 0);
        due("alike ones are not turned", x.pair(2, 2, 1), 1);
        due("changes for nothing", x.pair(0, 1, 0), 0);
    }

    private void pairCosts() {
        promise = "promise 8, costs";
        TaleTypes x = with("a", "b", "c", "d", "h");
        x.cost(0, 9);
        due("one apart", x.pair(0, 1, 0), 1);
        due("two apart", x.pair(0, 2, 0), 2);
        due("three apart", x.pair(0, 3, 0), 3);
        due("MOST at most", x.pair(0, 4, 0), 3);
        x.cost(2, 2);
        x.cost(3, 5);
        due("two times STEP", x.pair(0, 2, 0), 4);
        due("MOST", x.pair(0, 3, 0), 5);
        x.cost(0, 2);
        due("gaps cost less", x.pair(0, 3, 0), 4);
        due("in two ways", x.pair(0, 3, 1), 2);
        due("two steps", x.pair(0, 3, 2), 2);
    }

    private void pairLong() {
        promise = "promise 8, the longest";
        TaleTypes x = with("aaaaaaaaaa", "hhhhhhhhhh", "ahahahahah", "hahahahaha");
        due("ten changes", x.pair(0, 1, 0), 30);
        due("nine in order", x.pair(2, 3, 3), 9);
        x.cost(2, 9);
        x.cost(3, 9);
        x.cost(0, 4);
        due("twenty gaps", x.pair(0, 1, 0), 80);
        due("twenty steps", x.pair(0, 1, 2), 20);
        due("by choice of ten out of twenty", x.pair(0, 1, 1), 184756);
        due("the last step", x.step(0, 1, 19), 2);
        due("no more", x.step(0, 1, 20), NONE);
        x.cost(0, 1);
        x.cost(3, 2);
        due("all rows of steps", x.pair(0, 1, 1), 8097453);
        x.cost(0, 9);
        x.cost(1, 1);
        x.cost(3, 9);
        due("five times turned", x.pair(2, 3, 0), 5);
        due("in five steps", x.pair(2, 3, 2), 5);
        due("the fifth", x.step(2, 3, 4), 3);
    }

    private void step() {
        promise = "promise 9";
        TaleTypes x = with("ah", "ha", "ahb");
        due("turned", x.step(0, 1, 0), 3);
        due("no more", x.step(0, 1, 1), NONE);
        x.cost(1, 4);
        int[] want = {1, 0, 2};
        for (int i = 0; i < 3; i++) {
            due("of like rows the one with the lesser step, " + i, x.step(0, 1, i), want[i]);
        }
        due("no fourth", x.step(0, 1, 3), NONE);
        due("first alone", x.step(2, 0, 2), 1);
        due("other alone", x.step(0, 2, 2), 2);
        due("the same", x.step(0, 0, 1), 0);
        due("step(0, 1, -1)", x.step(0, 1, -1), NONE);
        due("step(0, 1, MAX)", x.step(0, 1, MAX), NONE);
        due("step(0, 1, MIN)", x.step(0, 1, MIN), NONE);
        due("step(3, 0, 0)", x.step(3, 0, 0), UNKNOWN);
        due("step(0, 3, 0)", x.step(0, 3, 0), UNKNOWN);
        due("step(-1, 0, 0)", x.step(-1, 0, 0), UNKNOWN);
    }

    private void node() {
        promise = "promise 10";
        TaleTypes x = with("aaaa", "dddd", "aaab", "dddc");
        int[][] want = {{1, 5, 1, 0}, {1, 10, 2, 1}, {10, 15, 5, 2}};
        for (int n = 0; n < 3; n++) {
            for (int what = 0; what < 4; what++) {
                due("node(" + n + ", " + what + ")", x.node(n, what), want[n][what]);
            }
        }
        due("node(3, 0)", x.node(3, 0), UNKNOWN);
        due("node(-1, 0)", x.node(-1, 0), UNKNOWN);
        due("node(0, 4)", x.node(0, 4), OUTSIDE);
        due("node(0, -1)", x.node(0, -1), OUTSIDE);
        due("UNKNOWN ahead of OUTSIDE", x.node(3, 4), UNKNOWN);
        x.take(2);
        due("numbers as they are now", x.node(0, 1), 6);
        due("two nodes", x.node(2, 0), UNKNOWN);
        due("one tale has no node", with("a").node(0, 0), UNKNOWN);
    }

    /** a, b, d, h stand at 0, 1, 3, 7: changes cost what they are apart. */
    private static TaleTypes onALine(String... tales) {
        TaleTypes x = with(tales);
        x.cost(0, 9);
        x.cost(3, 9);
        return x;
    }

    private void nodeKinds() {
        promise = "promise 10, kinds";
        TaleTypes x = onALine("a", "b", "d", "h");
        int[][] heights = {{1, 2, 4}, {1, 3, 7}, {1, 2, 5}};
        for (int kind = 0; kind < 3; kind++) {
            x.kind(kind);
            for (int n = 0; n < 3; n++) {
                due("kind " + kind + ", height of " + n, x.node(n, 0), heights[kind][n]);
            }
            due("all", x.node(2, 1), 15);
            due("but h", x.node(2, 2), 7);
            due("middle of all", x.node(2, 3), 1);
        }
        TaleTypes y = onALine("c", "a", "e", "g");
        due("of like ones the least in the one, then in the other", y.node(0, 1), 3);
    }

    private void nodeFractions() {
        promise = "promise 10, fractions";
        // a, b are joined first; then d is 2 1/2 from them, and f 2 from d.
        TaleTypes x = onALine("a", "b", "d", "f");
        x.kind(2);
        due("2 is nearer than 2 1/2", x.node(1, 1), 12);
        // c and e are 2 from each other; {a, b} is 1 1/2 from c.
        TaleTypes y = onALine("e", "c", "a", "b");
        y.kind(2);
        due("a joins b or b joins c: of like ones the least", y.node(0, 1), 10);
        due("a is 1 1/2 from {b, c}: cut", y.node(1, 0), 1);
        due("a is nearer than e", y.node(1, 1), 14);
        due("e is 3 from the rest", y.node(2, 0), 3);
    }

    private void types() {
        promise = "promise 11";
        TaleTypes x = onALine("a", "b", "d", "h");
        int[] count = {4, 3, 2, 2, 1};
        int[] ofB = {2, 3, 7, 7, 15};
        int[] ofH = {8, 8, 8, 8, 15};
        for (int h = 0; h < 5; h++) {
            due("types(" + h + ", 0)", x.types(h, 0), count[h]);
            due("types(" + h + ", 2)", x.types(h, 2), ofB[h]);
            due("types(" + h + ", 4)", x.types(h, 4), ofH[h]);
        }
        due("types(999, 0)", x.types(999, 0), 1);
        due("types(1000, 0)", x.types(1000, 0), OUTSIDE);
        due("types(-1, 0)", x.types(-1, 0), OUTSIDE);
        due("types(-1, 1)", x.types(-1, 1), OUTSIDE);
        due("types(0, 5)", x.types(0, 5), UNKNOWN);
        due("types(0, -1)", x.types(0, -1), UNKNOWN);
        due("types(0, MIN)", x.types(0, MIN), UNKNOWN);
        due("UNKNOWN ahead of OUTSIDE", x.types(1000, 5), UNKNOWN);
        due("none", new TaleTypes().types(0, 0), 0);
        due("one", with("a").types(0, 0), 1);
        due("one by itself", with("a").types(0, 1), 1);
        due("alike ones at 0", with("a", "a").types(0, 0), 1);
    }

    private void middle() {
        promise = "promise 12";
        TaleTypes x = onALine("h", "d", "b", "a");
        due("of none", x.middle(0), NONE);
        due("of one", x.middle(4), 2);
        due("of two the least", x.middle(9), 0);
        due("of h, d, b", x.middle(7), 1);
        due("of d, b, a", x.middle(14), 2);
        due("of all", x.middle(15), 1);
        due("middle(16)", x.middle(16), UNKNOWN);
        due("middle(31)", x.middle(31), UNKNOWN);
        due("middle(-1)", x.middle(-1), UNKNOWN);
        due("middle(MIN)", x.middle(MIN), UNKNOWN);
        due("none of none", new TaleTypes().middle(0), NONE);
        due("no tale", new TaleTypes().middle(1), UNKNOWN);
        TaleTypes eight = with("a", "a", "a", "a", "a", "a", "a", "h");
        due("all eight", eight.middle(255), 0);
        due("middle(256)", eight.middle(256), UNKNOWN);
    }

    private void common() {
        promise = "promise 13";
        TaleTypes x = with("abch", "hhb", "ca");
        due("of none all eight", x.common(0), 255);
        due("of one", x.common(1), 1 | 2 | 4 | 128);
        due("of two", x.common(3), 2 | 128);
        due("of others", x.common(5), 5);
        due("of all", x.common(7), 0);
        due("common(8)", x.common(8), UNKNOWN);
        due("common(-1)", x.common(-1), UNKNOWN);
        due("common(MIN)", x.common(MIN), UNKNOWN);
    }

    private void wandered() {
        promise = "promise 14";
        TaleTypes x = new TaleTypes();
        // A ring 0 1 2 3 4 5, and 6 in the midst of 0, 2, 4; 7 by itself.
        for (int p = 0; p < 6; p++) {
            x.road(p, (p + 1) % 6, true);
        }
        x.road(6, 0, true);
        x.road(6, 2, true);
        x.road(6, 4, true);
        due("none", x.wandered(0, 0), 0);
        due("none, by which", x.wandered(0, 1), 0);
        due("one by itself", x.wandered(128, 0), 0);
        due("one, by which", x.wandered(128, 1), 128);
        due("over the midst", x.wandered(1 | 4 | 16, 0), 3);
        due("by which", x.wandered(1 | 4 | 16, 1), 1 | 4 | 16 | 64);
        due("over against", x.wandered(1 | 8, 0), 3);
        due("of as few the least", x.wandered(1 | 8, 1), 1 | 2 | 4 | 8);
        due("not together", x.wandered(1 | 128, 0), NONE);
        due("not together, by which", x.wandered(1 | 128, 1), NONE);
        due("all but one", x.wandered(127, 0), 6);
        due("wandered(255, 1)", x.wandered(255, 1), NONE);
        due("wandered(256, 0)", x.wandered(256, 0), UNKNOWN);
        due("wandered(-1, 0)", x.wandered(-1, 0), UNKNOWN);
        due("wandered(MAX, 0)", x.wandered(MAX, 0), UNKNOWN);
        due("wandered(1, 2)", x.wandered(1, 2), OUTSIDE);
        due("wandered(1, -1)", x.wandered(1, -1), OUTSIDE);
        due("UNKNOWN ahead of OUTSIDE", x.wandered(256, 2), UNKNOWN);
        due("asking is no deed", x.told(8), 9);
    }

    private void take() {
        promise = "promise 15";
        TaleTypes x = with("a", "b", "c");
        x.at(2, 16);
        due("take(3)", x.take(3), UNKNOWN);
        due("take(-1)", x.take(-1), UNKNOWN);
        due("take(MIN)", x.take(MIN), UNKNOWN);
        due("take(1)", x.take(1), 2);
        due("the first stays", x.motif(0, 0), 0);
        due("c has one number less", x.motif(1, 0), 2);
        due("and is told where it was", x.taleAt(1, 1), 16);
        due("there are two", x.motif(2, 0), UNKNOWN);
        due("take(1)", x.take(1), 1);
        due("take(0)", x.take(0), 0);
        due("take(0) of none", x.take(0), UNKNOWN);
        type(x, "d");
        due("from 0 on again", x.tale(), 0);
        due("told nowhere", x.taleAt(0, 1), 0);
    }

    private void cost() {
        promise = "promise 16";
        TaleTypes x = new TaleTypes();
        int[] was = {2, 2, 1, 3};
        for (int what = 0; what < 4; what++) {
            due("cost(" + what + ", 9)", x.cost(what, 9), was[what]);
            due("cost(" + what + ", 10)", x.cost(what, 10), OUTSIDE);
            due("cost(" + what + ", -1)", x.cost(what, -1), OUTSIDE);
            due("cost(" + what + ", MAX)", x.cost(what, MAX), OUTSIDE);
            due("cost(" + what + ", 1)", x.cost(what, 1), 9);
            due("cost(" + what + ", 0)", x.cost(what, 0), what == 2 ? 1 : OUTSIDE);
            due("costAt(" + what + ")", x.costAt(what), what == 2 ? 0 : 1);
        }
        due("cost(4, 1)", x.cost(4, 1), OUTSIDE);
        due("cost(-1, 1)", x.cost(-1, 1), OUTSIDE);
        due("cost(MIN, 1)", x.cost(MIN, 1), OUTSIDE);
        due("the nine that were not refused", x.told(8), 9);
    }

    private void kind() {
        promise = "promise 17";
        TaleTypes x = new TaleTypes();
        due("kind(3)", x.kind(3), OUTSIDE);
        due("kind(-1)", x.kind(-1), OUTSIDE);
        due("kind(1)", x.kind(1), 0);
        due("kind(2)", x.kind(2), 1);
        due("kind(2)", x.kind(2), 2);
        due("told(2)", x.told(2), 2);
        due("kind(0)", x.kind(0), 2);
        due("each is a deed, the like one too", x.told(8), 4);
    }

    private void road() {
        promise = "promise 18";
        TaleTypes x = new TaleTypes();
        due("road(0, 7)", x.road(0, 7, true), 1);
        due("the same, the other way", x.road(7, 0, true), 1);
        due("road(3, 4)", x.road(3, 4, true), 2);
        due("goes both ways", x.wandered(129, 0), 1);
        due("not a road", x.road(1, 2, false), 2);
        due("is not, the other way", x.road(7, 0, false), 1);
        due("gone", x.wandered(129, 0), NONE);
        due("road(2, 2)", x.road(2, 2, true), UNKNOWN);
        due("road(8, 0)", x.road(8, 0, true), UNKNOWN);
        due("road(0, 8)", x.road(0, 8, false), UNKNOWN);
        due("road(-1, 0)", x.road(-1, 0, true), UNKNOWN);
        due("road(0, MIN)", x.road(0, MIN, true), UNKNOWN);
        due("deeds", x.told(8), 5);
        for (int p = 0; p < 8; p++) {
            for (int q = p + 1; q < 8; q++) {
                x.road(p, q, true);
            }
        }
        due("all of them", x.road(0, 1, true), 28);
        due("all hang together", x.wandered(255, 0), 7);
    }

    private void at() {
        promise = "promise 19";
        TaleTypes x = with("a", "b");
        x.road(0, 1, true);
        x.road(1, 2, true);
        due("at(0, 5)", x.at(0, 5), 2);
        due("at(1, 255)", x.at(1, 255), NONE);
        due("told there all the same", x.taleAt(1, 1), 255);
        due("the first stays", x.taleAt(0, 1), 5);
        due("at(0, 0)", x.at(0, 0), 0);
        due("told nowhere", x.taleAt(0, 1), 0);
        due("at(0, 256)", x.at(0, 256), OUTSIDE);
        due("at(0, -1)", x.at(0, -1), OUTSIDE);
        due("at(2, 0)", x.at(2, 0), UNKNOWN);
        due("at(-1, 0)", x.at(-1, 0), UNKNOWN);
        due("UNKNOWN ahead of OUTSIDE", x.at(2, 256), UNKNOWN);
        due("deeds", x.told(8), 7);
    }

    private void drift() {
        promise = "promise 20";
        TaleTypes x = new TaleTypes();
        due("drift(0)", x.drift(0), OUTSIDE);
        due("drift(9)", x.drift(9), OUTSIDE);
        due("drift(-1)", x.drift(-1), OUTSIDE);
        due("no draw yet", x.seed(0), 0);
        due("drift(1)", x.drift(1), 1);
        // The draws from 0 by hand, as the document tells them.
        long s = 0;
        s = (s * 1103515245L + 12345L) % 2147483648L;
        int length = (int) (s / 65536 % 7) + 2;
        due("so many motifs", x.taleAt(0, 0), length);
        for (int i = 0; i < length; i++) {
            s = (s * 1103515245L + 12345L) % 2147483648L;
            due("motif " + i, x.motif(0, i), (int) (s / 65536 % 5));
        }
        s = (s * 1103515245L + 12345L) % 2147483648L;
        due("told at", x.taleAt(0, 1), (int) (s / 65536 % 256));
        due("the seed", x.seed((int) s), (int) s);
        due("each time is a deed", x.told(8), 1);
        due("drift(5)", x.drift(5), 6);
        due("six deeds", x.told(8), 6);
        due("while there is room", x.drift(8), 8);
        due("eight deeds", x.told(8), 8);
        int seed = x.seed(0);
        x.seed(seed);
        due("no room", x.drift(3), 8);
        due("no draw", x.seed(1), seed);
        due("no deed", x.told(8), 8);
    }

    private void undo() {
        promise = "promise 21";
        TaleTypes x = with("a", "b");
        due("undo(0)", x.undo(0), OUTSIDE);
        due("undo(17)", x.undo(17), OUTSIDE);
        due("undo(-1)", x.undo(-1), OUTSIDE);
        due("undo(3)", x.undo(3), NOT);
        due("undo(1)", x.undo(1), 1);
        due("one is left to undo", x.told(8), 1);
        due("nothing is typed", x.told(1), 0);
        due("undo(2)", x.undo(2), NOT);
        due("undo(1)", x.undo(1), 0);
        due("undo(1) again", x.undo(1), NOT);
        x.seed(7);
        x.drift(3);
        x.feed(97);
        int seed = x.seed(0);
        due("two of three draws undone", x.undo(2), 1);
        due("the seed stays", x.seed(seed), 0);
        due("what is typed stays", x.told(1), 1);
        due("it is no deed itself", x.told(8), 1);
    }

    private void undoKeepsSixteen() {
        promise = "promise 21, 16 at most";
        TaleTypes x = new TaleTypes();
        for (int k = 0; k < 20; k++) {
            x.cost(0, 1 + k % 9);
        }
        due("sixteen are kept", x.told(8), 16);
        due("undo(3)", x.undo(3), 0);
        due("the cost of the seventeenth", x.costAt(0), 1 + 16 % 9);
        due("thirteen are left", x.told(8), 13);
        due("undo(14)", x.undo(14), NOT);
        due("undo(13)", x.undo(13), 0);
        due("the cost of the fourth", x.costAt(0), 4);
        due("none is left", x.told(8), 0);
        for (int k = 0; k < 16; k++) {
            x.kind(k % 3);
        }
        due("undo(16)", x.undo(16), 0);
        due("as ahead of all", x.told(2), 0);
    }

    private void undoEachDeed() {
        promise = "promise 21, each deed";
        TaleTypes x = with("ab", "cd", "ef");
        x.at(1, 3);
        x.take(1);
        x.undo(1);
        due("taken tale is again", x.told(0), 3);
        due("with its motifs", x.motif(1, 1), 3);
        due("and its places", x.taleAt(1, 1), 3);
        due("the later one is later", x.motif(2, 0), 4);
        x.undo(1);
        due("told nowhere", x.taleAt(1, 1), 0);
        x.road(0, 1, true);
        x.undo(1);
        due("no road", x.wandered(3, 0), NONE);
        x.kind(1);
        x.undo(1);
        due("kind", x.told(2), 0);
        int apart = x.pair(0, 1, 0);
        due("the node ahead", x.node(0, 0), apart);
        x.cost(0, 1);
        x.cost(3, 1);
        due("the node then", x.node(0, 0), x.pair(0, 1, 0));
        x.undo(2);
        due("the node again", x.node(0, 0), apart);
        x.write(0, 0, 0);
        x.write(0, 0, 1);
        x.undo(1);
        due("the book stays", x.told(6), 2);
    }

    private void refusedIsNoDeed() {
        promise = "what is refused changes nothing";
        TaleTypes x = with("ab", "cd");
        x.take(2);
        x.cost(0, 0);
        x.kind(3);
        x.road(1, 1, true);
        x.at(0, 256);
        x.at(5, 1);
        x.drift(0);
        x.undo(5);
        x.tale();
        x.goBack(0);
        x.keep(2);
        due("deeds", x.told(8), 2);
        due("tales", x.told(0), 2);
        due("undo", x.undo(1), 1);
    }

    private void write() {
        promise = "promise 22";
        TaleTypes x = with("ab", "cd");
        due("write(2, 0, 0)", x.write(2, 0, 0), UNKNOWN);
        due("write(0, 2, 0)", x.write(0, 2, 0), UNKNOWN);
        due("write(-1, 0, 0)", x.write(-1, 0, 0), UNKNOWN);
        due("write(0, 1, MIN)", x.write(0, 1, MIN), 1);
        due("write(1, 1, MAX)", x.write(1, 1, MAX), 2);
        for (int k = 3; k <= 20; k++) {
            due("write", x.write(0, 0, 0), k);
        }
        due("FULL", x.write(0, 0, 0), FULL);
        due("UNKNOWN ahead of FULL", x.write(0, 2, 0), UNKNOWN);
        due("told(6)", x.told(6), 20);
        due("it is no deed", x.told(8), 2);
    }

    private void tear() {
        promise = "promise 23";
        TaleTypes x = with("ab");
        due("tear() of none", x.tear(), 0);
        x.write(0, 0, 1);
        x.write(0, 0, 0);
        due("tear()", x.tear(), 2);
        due("no book", x.told(6), 0);
        due("none wrong", x.told(7), NONE);
        due("write from the first on", x.write(0, 0, 0), 1);
        due("still none wrong", x.told(7), NONE);
    }

    private void seed() {
        promise = "promise 24";
        TaleTypes x = new TaleTypes();
        due("seed(MAX)", x.seed(MAX), 0);
        due("seed(-1)", x.seed(-1), OUTSIDE);
        due("seed(MIN)", x.seed(MIN), OUTSIDE);
        due("seed(0)", x.seed(0), MAX);
        due("it is no deed", x.told(8), 0);
        x.seed(MAX);
        x.drift(1);
        TaleTypes y = new TaleTypes();
        y.seed(MAX);
        y.drift(1);
        due("the same draws", x.seed(0), y.seed(0));
    }

    private void keep() {
        promise = "promise 25";
        TaleTypes x = with("ab", "cd");
        due("keep(2)", x.keep(2), UNKNOWN);
        due("keep(-1)", x.keep(-1), UNKNOWN);
        due("still to undo", x.told(8), 2);
        due("keep(1)", x.keep(1), 1);
        due("nothing to undo", x.told(8), 0);
        due("undo(1)", x.undo(1), NOT);
        due("tales stay", x.told(0), 2);
        due("goBack(0)", x.goBack(0), NOT);
        x.take(0);
        due("since the image", x.told(8), 1);
        due("keep(1) again", x.keep(1), 1);
        x.take(0);
        x.goBack(1);
        due("the later image", x.told(0), 1);
        due("cd", x.motif(0, 0), 2);
    }

    private void goBack() {
        promise = "promise 26";
        TaleTypes x = with("ab", "cd");
        x.at(1, 6);
        x.road(1, 2, true);
        x.cost(3, 7);
        x.kind(1);
        x.seed(99);
        x.feed(97);
        x.keep(0);
        x.feed(98);
        x.take(0);
        x.road(1, 2, false);
        x.cost(3, 8);
        x.kind(2);
        x.seed(5);
        x.write(0, 0, 0);
        due("goBack(1)", x.goBack(1), NOT);
        due("goBack(2)", x.goBack(2), UNKNOWN);
        due("goBack(-1)", x.goBack(-1), UNKNOWN);
        due("still to undo", x.told(8), 4);
        due("goBack(0)", x.goBack(0), 1);
        due("nothing to undo", x.told(8), 0);
        due("tales", x.told(0), 2);
        due("ab", x.motif(0, 1), 1);
        due("where", x.taleAt(1, 1), 6);
        due("roads", x.taleAt(1, 2), 1);
        due("costs", x.costAt(3), 7);
        due("kind", x.told(2), 1);
        due("the seed", x.seed(1), 99);
        due("what is typed stays", x.told(1), 2);
        due("the book stays", x.told(6), 1);
        x.take(1);
        due("the tree", x.told(3), 0);
        due("goBack(0) again", x.goBack(0), 1);
        due("the image was not changed", x.told(0), 2);
        due("the tree again", x.node(0, 1), 3);
    }
}
