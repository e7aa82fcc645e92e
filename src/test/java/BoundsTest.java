/**
 * Each sentence of the document that names a boundary has a test here that bears its words: the last value
 * that is taken and the first that is not, the empty and the full, what wraps around, what is like.
 * RefusalsTest holds that what is refused changes nothing.
 */
public final class BoundsTest {
    private static final int NONE = -1, UNKNOWN = -1000000001, OUTSIDE = -1000000002, NOT = -1000000003, FULL = -1000000004;
    private static final int MIN = Integer.MIN_VALUE, MAX = Integer.MAX_VALUE;

    private final Check check = new Check();
    private String sentence = "";

    public static void main(String[] args) {
        BoundsTest t = new BoundsTest();
        t.terms();
        t.tales();
        t.linedUp();
        t.joined();
        t.places();
        t.bookAndDraws();
        t.undoneAndImages();
        t.check.end("BoundsTest");
    }

    private void terms() {
        numbersFromZeroOn();
        setsAreBits();
        refusalsAreFarBelow();
        fiveHundredAndTwelveCalls();
    }

    private void tales() {
        motifsAreAToH();
        typedTenAtMost();
        aTaleIsOneToTenMotifs();
        talesEightAtMost();
        laterOnesHaveOneNumberLess();
        costsAndTheirBounds();
        changeIsMostAtMost();
        toldOfEachCount();
        taleAtOfEachCount();
    }

    private void linedUp() {
        turnedAtTheEdges();
        turnedOnlyIfUnlikeAndWhole();
        shortestAndLongest();
        theWayTakesTheLesserStep();
        stepsOfTheWayEnd();
        commonFromNoneToAll();
        pairOfEachCount();
    }

    private void joined() {
        nodesOfEachCount();
        likeOnesByLeastTales();
        nearnessByKind();
        fractionsAreComparedExactly();
        heightOfKindTwoIsCut();
        typesAtHeights();
        typesOfEachCount();
        middleOfLikeOnes();
        setsOfTalesOfEachCount();
    }

    private void places() {
        placesZeroToSeven();
        roadsGoBothWays();
        wanderedOfOneOrNone();
        wanderedOverOthers();
        wanderedOfAsFewTheLeast();
        wanderedNone();
        toldAtSets();
    }

    private void bookAndDraws() {
        allHave();
        likeWhatIsTyped();
        bookTwentyAtMost();
        wrongIsTheFirst();
        wrongIfThereIsNoMore();
        seedBounds();
        drawsWrapAround();
        drawsAreFromTwoToEight();
        drawsWhileThereIsRoom();
    }

    private void undoneAndImages() {
        sixteenAtMostAreKept();
        undoBoundsOfEachCount();
        undoRoundTheRing();
        eachDeedIsUndone();
        seedAndTypedStay();
        undoneSinceTheImage();
        imagesZeroAndOne();
        imagesKeepTheseAndTheSeed();
        imagesStayAsTheyAre();
    }

    private void due(String call, int got, int want) {
        check.due(sentence + ": " + call, got, want);
    }

    private static void type(TaleTypes x, String letters) {
        for (int i = 0; i < letters.length(); i++) {
            x.feed(letters.charAt(i));
        }
    }

    private static TaleTypes with(String... tales) {
        TaleTypes x = new TaleTypes();
        for (String t : tales) {
            type(x, t);
            x.tale();
        }
        return x;
    }

    /** So many tales a, b, c ... */
    private static TaleTypes count(int tales) {
        TaleTypes x = new TaleTypes();
        for (int t = 0; t < tales; t++) {
            x.feed('a' + t);
            x.tale();
        }
        return x;
    }

    /** Tales of one motif, as far apart as their motifs' numbers. */
    private static TaleTypes onALine(int kind, String motifs) {
        TaleTypes x = with(motifs.split(""));
        x.cost(0, 9);
        x.cost(3, 9);
        x.kind(kind);
        return x;
    }

    // ---- Terms

    private void numbersFromZeroOn() {
        sentence = "What has a number has it from 0 on";
        TaleTypes x = new TaleTypes();
        x.feed('c');
        due("the first tale", x.tale(), 0);
        due("its first motif", x.motif(0, 0), 2);
        x.feed('c');
        due("the next tale", x.tale(), 1);
        due("the first node", x.node(0, 1), 3);
        due("the first step", x.step(0, 1, 0), 0);
        x.write(0, 1, 5);
        due("the first entry", x.told(7), 0);
        due("the first place", x.road(0, 1, true), 1);
        due("the first image", x.keep(0), 1);
    }

    private void setsAreBits() {
        sentence = "A SET is a whole number, bit k for k";
        for (int k = 0; k < 8; k++) {
            TaleTypes x = count(8);
            due("MOTIF " + k, x.common(1 << k), 1 << k);
            due("TALE " + k, x.middle(1 << k), k);
            due("TALE " + k + " by itself", x.types(0, k + 1), 1 << k);
            due("PLACE " + k, x.wandered(1 << k, 1), 1 << k);
        }
    }

    private void refusalsAreFarBelow() {
        sentence = "far below all that is counted: -1000000001 and on";
        due("NONE", TaleTypes.NONE, -1);
        due("UNKNOWN", TaleTypes.UNKNOWN, -1000000001);
        due("OUTSIDE", TaleTypes.OUTSIDE, -1000000002);
        due("NOT", TaleTypes.NOT, -1000000003);
        due("FULL", TaleTypes.FULL, -1000000004);
    }

    private void fiveHundredAndTwelveCalls() {
        sentence = "An object is used for at most 512 calls";
        TaleTypes x = new TaleTypes();
        for (int k = 0; k < 510; k++) {
            x.drift(8);
            k++;
            x.take(0);
        }
        due("call 511", x.told(0), 7);
        due("call 512", x.told(8), 16);
    }

    // ---- 1: tales

    private void motifsAreAToH() {
        sentence = "MOTIFS are the letters a to h (0 to 7); feed: 97 .. 104";
        for (int letter = -300; letter <= 400; letter++) {
            boolean taken = letter >= 97 && letter <= 104;
            TaleTypes x = new TaleTypes();
            due("feed(" + letter + ")", x.feed(letter), taken ? 1 : OUTSIDE);
            due("tale()", x.tale(), taken ? 0 : NOT);
            due("motif of " + letter, x.motif(0, 0), taken ? letter - 97 : UNKNOWN);
        }
        int[] far = {MIN, MAX, 97 + 65536, 97 - 65536, 97 | 1 << 31, 97 | 1 << 30};
        for (int letter : far) {
            due("feed(" + letter + ")", new TaleTypes().feed(letter), OUTSIDE);
        }
    }

    private void typedTenAtMost() {
        sentence = "TYPED, 10 at most";
        TaleTypes x = new TaleTypes();
        due("none", x.told(1), 0);
        for (int k = 1; k <= 10; k++) {
            due("letter " + k, x.feed(97 + k % 8), k);
            due("so many", x.told(1), k);
        }
        for (int letter = 97; letter <= 104; letter++) {
            due("an eleventh", x.feed(letter), FULL);
        }
        due("OUTSIDE ahead of FULL", x.feed(96), OUTSIDE);
        due("OUTSIDE ahead of FULL", x.feed(105), OUTSIDE);
        due("still ten", x.told(1), 10);
        x.tale();
        for (int i = 0; i < 10; i++) {
            due("motif " + i, x.motif(0, i), (i + 1) % 8);
        }
        due("from the first on again", x.feed(97), 1);
    }

    private void aTaleIsOneToTenMotifs() {
        sentence = "A TALE is a row of 1 to 10; motif: NONE: not so many";
        due("of none", new TaleTypes().tale(), NOT);
        String letters = "hhahhahhah";
        for (int length = 1; length <= 10; length++) {
            TaleTypes x = with(letters.substring(0, length));
            due("so many", x.taleAt(0, 0), length);
            due("the last", x.motif(0, length - 1), letters.charAt(length - 1) - 'a');
            due("one more", x.motif(0, length), NONE);
            due("far more", x.motif(0, MAX), NONE);
            due("one less than the first", x.motif(0, -1), NONE);
            due("far less", x.motif(0, MIN), NONE);
            for (int i = 10; i < 70; i++) {
                due("motif(0, " + i + ")", x.motif(0, i), NONE);
            }
        }
    }

    private void talesEightAtMost() {
        sentence = "TALES (8 at most; none at first); FULL ahead of NOT; what is TYPED stays";
        TaleTypes x = new TaleTypes();
        for (int t = 0; t < 8; t++) {
            due("so many", x.told(0), t);
            due("nothing is typed", x.tale(), NOT);
            x.feed(97 + t);
            due("its number", x.tale(), t);
            due("nothing is typed then", x.told(1), 0);
        }
        due("no room, nothing typed", x.tale(), FULL);
        due("letters can be typed all the same", x.feed(104), 1);
        x.feed(97);
        due("no room", x.tale(), FULL);
        due("it stays", x.told(1), 2);
        due("eight", x.told(0), 8);
        x.take(3);
        due("there is room", x.tale(), 7);
        due("what was typed, h", x.motif(7, 0), 7);
        due("what was typed, a", x.motif(7, 1), 0);
        due("no more of it", x.motif(7, 2), NONE);
        due("no room again", x.tale(), FULL);
    }

    private void laterOnesHaveOneNumberLess() {
        sentence = "if one goes, later ones have one number less";
        for (int gone = 0; gone < 8; gone++) {
            TaleTypes x = count(8);
            for (int t = 0; t < 8; t++) {
                x.at(t, 1 << t);
            }
            due("take(" + gone + ")", x.take(gone), 7);
            for (int t = 0; t < 7; t++) {
                int was = t < gone ? t : t + 1;
                due("motif of " + t, x.motif(t, 0), was);
                due("places of " + t, x.taleAt(t, 1), 1 << was);
            }
            due("the eighth", x.motif(7, 0), UNKNOWN);
            x.feed('a');
            due("the next comes behind", x.tale(), 7);
            due("told nowhere", x.taleAt(7, 1), 0);
        }
        TaleTypes y = count(8);
        for (int left = 7; left >= 0; left--) {
            due("take(" + (left + 1) + ")", y.take(left + 1), UNKNOWN);
            due("take(-1)", y.take(-1), UNKNOWN);
            due("take(0)", y.take(0), left);
        }
        due("none is left", y.take(0), UNKNOWN);
    }

    private void costsAndTheirBounds() {
        sentence = "COSTS: GAP (1 .. 9), TURN (1 .. 9), STEP (0 .. 9), MOST (1 .. 9)";
        int[] first = {2, 2, 1, 3};
        for (int what = 0; what < 4; what++) {
            int least = what == 2 ? 0 : 1;
            due("at first", new TaleTypes().costAt(what), first[what]);
            for (int v = -3; v <= 13; v++) {
                boolean taken = v >= least && v <= 9;
                TaleTypes x = new TaleTypes();
                due("cost(" + what + ", " + v + ")", x.cost(what, v), taken ? first[what] : OUTSIDE);
                due("then", x.costAt(what), taken ? v : first[what]);
                due("the next", x.costAt((what + 1) % 4), first[(what + 1) % 4]);
                due("deeds", x.told(8), taken ? 1 : 0);
            }
        }
        int[] no = {MIN, -1, 4, MAX};
        for (int what : no) {
            due("cost(" + what + ", 1)", new TaleTypes().cost(what, 1), OUTSIDE);
            due("cost(" + what + ", 0)", new TaleTypes().cost(what, 0), OUTSIDE);
            due("costAt(" + what + ")", new TaleTypes().costAt(what), OUTSIDE);
        }
    }

    private void changeIsMostAtMost() {
        sentence = "CHANGE: how far their numbers are apart times STEP, MOST at most";
        TaleTypes x = count(8);
        x.cost(0, 9);
        for (int most = 1; most <= 9; most++) {
            x.cost(3, most);
            for (int step = 0; step <= 9; step += 3) {
                x.cost(2, step);
                due("a, h", x.pair(0, 7, 0), Math.min(7 * step, most));
                due("b, a", x.pair(1, 0, 0), Math.min(step, most));
                due("c, f", x.pair(2, 5, 0), Math.min(3 * step, most));
                due("alike", x.pair(4, 4, 0), 0);
            }
        }
        x.cost(2, 1);
        x.cost(3, 7);
        due("just as much", x.pair(0, 7, 0), 7);
        x.cost(3, 8);
        due("one below", x.pair(0, 7, 0), 7);
        x.cost(3, 6);
        due("one above", x.pair(0, 7, 0), 6);
    }

    private void toldOfEachCount() {
        sentence = "told: 0 .. 8, OUTSIDE";
        for (int tales = 0; tales <= 8; tales++) {
            TaleTypes x = count(tales);
            due("TALES", x.told(0), tales);
            due("NODES", x.told(3), Math.max(0, tales - 1));
            due("told(-1)", x.told(-1), OUTSIDE);
            due("told(9)", x.told(9), OUTSIDE);
            due("told(MIN)", x.told(MIN), OUTSIDE);
            due("told(MAX)", x.told(MAX), OUTSIDE);
            due("to be undone", x.told(8), tales);
        }
        TaleTypes y = new TaleTypes();
        for (int kind = 0; kind <= 2; kind++) {
            due("kind(" + kind + ")", y.kind(kind), Math.max(0, kind - 1));
            due("told(2)", y.told(2), kind);
            due("kind(3)", y.kind(3), OUTSIDE);
            due("kind(-1)", y.kind(-1), OUTSIDE);
            due("kind(MIN)", y.kind(MIN), OUTSIDE);
            due("kind(MAX)", y.kind(MAX), OUTSIDE);
            due("told(2) still", y.told(2), kind);
        }
    }

    private void taleAtOfEachCount() {
        sentence = "taleAt: UNKNOWN, OUTSIDE";
        for (int tales = 0; tales <= 8; tales++) {
            TaleTypes x = count(tales);
            for (int t = -2; t <= 10; t++) {
                boolean is = t >= 0 && t < tales;
                due("taleAt(" + t + ", 0) of " + tales, x.taleAt(t, 0), is ? 1 : UNKNOWN);
                due("taleAt(" + t + ", 3) of " + tales, x.taleAt(t, 3), is ? 0 : UNKNOWN);
                due("taleAt(" + t + ", 4) of " + tales, x.taleAt(t, 4), is ? OUTSIDE : UNKNOWN);
                due("taleAt(" + t + ", -1) of " + tales, x.taleAt(t, -1), is ? OUTSIDE : UNKNOWN);
                due("motif(" + t + ", 0) of " + tales, x.motif(t, 0), is ? t : UNKNOWN);
                due("motif(" + t + ", 1) of " + tales, x.motif(t, 1), is ? NONE : UNKNOWN);
            }
        }
    }

    // ---- 2: two tales

    private void turnedAtTheEdges() {
        sentence = "3 two of each, if those of the other are those of the first turned round";
        TaleTypes x = with("ahcccccccc", "haccaccccc", "ccccccccah", "ccccccccha", "cccchacccc", "ccccahcccc");
        x.cost(0, 9);
        x.cost(1, 1);
        x.cost(3, 9);
        due("the last two", x.pair(2, 3, 0), 1);
        due("step of the last two", x.step(2, 3, 8), 3);
        due("nine steps", x.pair(2, 3, 2), 9);
        due("in the midst", x.pair(4, 5, 0), 1);
        due("its step", x.step(4, 5, 4), 3);
        due("the first two, and c for a", x.pair(0, 1, 0), 1 + 2);
        due("step of the first two", x.step(0, 1, 0), 3);
        TaleTypes y = with("ha", "ah", "h", "a", "aha", "hah");
        y.cost(0, 9);
        y.cost(1, 1);
        y.cost(2, 9);
        y.cost(3, 9);
        due("both whole", y.pair(0, 1, 0), 1);
        due("one motif of each can't be turned", y.pair(2, 3, 0), 9);
        due("two of the first, one of the other", y.pair(0, 3, 0), 9);
        due("one of the first, two of the other", y.pair(3, 0, 0), 9);
        due("aha, hah: turned and changed", y.pair(4, 5, 0), 10);
        due("ahead of the change or behind it", y.pair(4, 5, 1), 2);
        due("the change is the lesser step", y.step(4, 5, 0), 0);
        due("then turned", y.step(4, 5, 1), 3);
    }

    private void turnedOnlyIfUnlikeAndWhole() {
        sentence = "turned round, and unlike";
        TaleTypes x = with("aa", "ab", "ba", "bc", "ca", "bb");
        x.cost(0, 9);
        x.cost(1, 1);
        x.cost(2, 4);
        x.cost(3, 9);
        due("aa, aa", x.pair(0, 0, 1), 1);
        due("aa, aa: two steps", x.pair(0, 0, 2), 2);
        due("ab, ba", x.pair(1, 2, 0), 1);
        due("ab, ab", x.pair(1, 1, 0), 0);
        due("only the first fits: ab, ca", x.pair(1, 4, 0), 8 + 4);
        due("only the other fits: ab, bc", x.pair(1, 3, 0), 4 + 4);
        due("aa, bb", x.pair(0, 5, 0), 8);
    }

    private void shortestAndLongest() {
        sentence = "APART: the least sum; WAYS: by how many rows of steps";
        TaleTypes x = with("a", "h", "aaaaaaaaaa", "hhhhhhhhhh", "hgfedcbaha");
        x.cost(0, 9);
        x.cost(3, 9);
        x.cost(2, 9);
        due("one and one", x.pair(0, 1, 0), 9);
        due("one and ten", x.pair(0, 2, 0), 81);
        due("ten and one, none alike", x.pair(3, 0, 0), 90);
        due("ten and ten", x.pair(2, 3, 0), 90);
        due("ten and ten in one way", x.pair(2, 3, 1), 1);
        due("ten steps", x.pair(2, 3, 2), 10);
        due("ten ways for one in ten", x.pair(0, 2, 1), 10);
        due("the same", x.pair(4, 4, 0), 0);
        due("the same in one way", x.pair(4, 4, 1), 1);
        x.cost(0, 1);
        x.cost(3, 2);
        due("every row is as cheap", x.pair(2, 3, 1), 8097453);
        due("one and ten, every row", x.pair(3, 0, 1), 21);
        x.cost(3, 3);
        due("gaps alone", x.pair(2, 3, 0), 20);
        due("gaps alone, ways", x.pair(2, 3, 1), 184756);
        x.cost(3, 1);
        due("changes alone", x.pair(2, 3, 1), 1);
    }

    private void theWayTakesTheLesserStep() {
        sentence = "THE WAY: of these the one whose first step that differs is the lesser";
        TaleTypes x = with("a", "h", "ah", "ha", "aa", "hb");
        x.cost(0, 1);
        x.cost(1, 2);
        x.cost(2, 9);
        x.cost(3, 2);
        due("0 ahead of 1 and 2", x.step(0, 1, 0), 0);
        due("of three ways", x.pair(0, 1, 1), 3);
        due("1 ahead of 2 and 3", x.step(2, 3, 0), 1);
        due("then both", x.step(2, 3, 1), 0);
        due("then the other", x.step(2, 3, 2), 2);
        due("of three ways", x.pair(2, 3, 1), 3);
        x.cost(3, 3);
        due("1 ahead of 2", x.step(0, 1, 0), 1);
        due("and then 2", x.step(0, 1, 1), 2);
        x.cost(3, 1);
        due("0 ahead of 1, 2 and 3", x.step(2, 3, 0), 0);
        due("and then 0", x.step(2, 3, 1), 0);
        due("of four ways", x.pair(2, 3, 1), 4);
        due("0 ahead of 1: a, aa", x.step(0, 4, 0), 0);
        due("then 2", x.step(0, 4, 1), 2);
        due("0 ahead of 1: aa, a", x.step(4, 0, 0), 0);
        due("then 1", x.step(4, 0, 1), 1);
    }

    private void stepsOfTheWayEnd() {
        sentence = "step: NONE: not so many; UNKNOWN";
        TaleTypes x = with("aaaaaaaaaa", "hhhhhhhhhh", "a");
        x.cost(0, 1);
        due("twenty", x.pair(0, 1, 2), 20);
        for (int i = 0; i < 20; i++) {
            due("step " + i, x.step(0, 1, i), i < 10 ? 1 : 2);
        }
        int[] no = {MIN, -1, 20, 21, MAX};
        for (int i : no) {
            due("step " + i, x.step(0, 1, i), NONE);
            due("one alone, step " + i, x.step(2, 2, i), NONE);
        }
        due("the only one", x.step(2, 2, 0), 0);
        due("one more", x.step(2, 2, 1), NONE);
    }

    private void commonFromNoneToAll() {
        sentence = "COMMON: the most MOTIFS that both have in the same order";
        TaleTypes x = with("abcdabcdab", "efghefghef", "badcbadcba", "b", "bb");
        due("none", x.pair(0, 1, 3), 0);
        due("all", x.pair(0, 0, 3), 10);
        due("one", x.pair(0, 3, 3), 1);
        due("two, with others between", x.pair(0, 4, 3), 2);
        due("the other way", x.pair(4, 0, 3), 2);
        due("one of two", x.pair(3, 4, 3), 1);
        due("in the same order", x.pair(0, 2, 3), x.pair(2, 0, 3));
    }

    private void pairOfEachCount() {
        sentence = "Of two TALES (perhaps the same); UNKNOWN, OUTSIDE";
        int[] numbers = {MIN, -1, 0, 1, 2, 3, 7, 8, MAX};
        for (int tales = 0; tales <= 8; tales++) {
            TaleTypes x = count(tales);
            for (int t : numbers) {
                for (int u : numbers) {
                    boolean both = t >= 0 && u >= 0 && t < tales && u < tales;
                    String call = "(" + t + ", " + u + ") of " + tales;
                    due("pair, COMMON " + call, x.pair(t, u, 3), both ? t == u ? 1 : 0 : UNKNOWN);
                    due("pair, 4 " + call, x.pair(t, u, 4), both ? OUTSIDE : UNKNOWN);
                    due("pair, -1 " + call, x.pair(t, u, -1), both ? OUTSIDE : UNKNOWN);
                    due("step, -1 " + call, x.step(t, u, -1), both ? NONE : UNKNOWN);
                    due("write " + call, Math.min(x.write(t, u, 0), 1), both ? 1 : UNKNOWN);
                    x.tear();
                }
            }
        }
    }

    // ---- 2: types

    private void nodesOfEachCount() {
        sentence = "As long as there are two; node: UNKNOWN, OUTSIDE";
        for (int tales = 0; tales <= 8; tales++) {
            TaleTypes x = count(tales);
            for (int n = -2; n <= 9; n++) {
                boolean is = n >= 0 && n < tales - 1;
                String call = "node " + n + " of " + tales;
                due(call, x.node(n, 0), is ? 1 : UNKNOWN);
                due(call + ", its tales", x.node(n, 1), is ? (4 << n) - 1 : UNKNOWN);
                due(call + ", the one", x.node(n, 2), is ? (2 << n) - 1 : UNKNOWN);
                due(call + ", OUTSIDE", x.node(n, 4), is ? OUTSIDE : UNKNOWN);
                due(call + ", OUTSIDE below", x.node(n, -1), is ? OUTSIDE : UNKNOWN);
            }
            due("node MIN", x.node(MIN, 0), UNKNOWN);
            due("node MAX", x.node(MAX, 0), UNKNOWN);
        }
    }

    private void likeOnesByLeastTales() {
        sentence = "of like ones those with the least TALE in the one, then in the other";
        TaleTypes same = onALine(0, "dddddddd");
        for (int n = 0; n < 7; n++) {
            due("all alike, node " + n, same.node(n, 1), (4 << n) - 1);
            due("HEIGHT", same.node(n, 0), 0);
        }
        TaleTypes x = onALine(0, "hbac");
        due("{1,2} and {1,3} are as near: the least in the other", x.node(0, 1), 6);
        TaleTypes y = onALine(0, "ahgb");
        due("{0,3} and {1,2} are as near: the least in the one", y.node(0, 1), 9);
        due("then the rest", y.node(1, 1), 6);
        due("the type with the least TALE, though it came later", y.node(2, 2), 9);
        TaleTypes z = onALine(0, "dgab");
        due("2 and 3 first", z.node(0, 1), 12);
        due("then 0, as it is nearer to them than to 1", z.node(1, 1), 13);
        due("the one with TALE 0", z.node(1, 2), 1);
        TaleTypes w = onALine(0, "dfab");
        due("{0,1} and {0,{2,3}} are as near: least TALE 1 ahead of 2", w.node(1, 1), 3);
        due("the one with the least TALE of the two", w.node(2, 2), 3);
    }

    private void nearnessByKind() {
        sentence = "by KIND: 0 the least APART, 1 the greatest, 2 the mean";
        // Two and two on a line: 0, 1 and 4, 7.
        int[] between = {3, 7, 5};
        for (int kind = 0; kind <= 2; kind++) {
            TaleTypes x = onALine(kind, "abeh");
            due("kind " + kind + ", first", x.node(0, 0), 1);
            due("kind " + kind + ", e and h", x.node(1, 1), kind == 0 ? 7 : 12);
            due("kind " + kind + ", the last", x.node(2, 0), between[kind]);
        }
        for (int kind = 0; kind <= 2; kind++) {
            TaleTypes alike = onALine(kind, "ddd");
            due("kind " + kind + ", alike ones", alike.node(0, 0), 0);
            due("kind " + kind + ", the third", alike.node(1, 0), 0);
        }
        TaleTypes y = onALine(0, "abeh");
        due("told KIND 0", y.node(2, 0), 3);
        y.kind(1);
        due("told KIND 1", y.node(2, 0), 7);
        y.undo(1);
        due("KIND 0 again", y.node(2, 0), 3);
    }

    private void fractionsAreComparedExactly() {
        sentence = "FRACTIONS are compared exactly";
        // {a, b} to d is 5/2, d to f is 2, {a, b} to f 9/2.
        due("2 is nearer than 5/2", onALine(2, "abdf").node(1, 1), 12);
        // {a, a, b} to d is 8/3, d to g is 3: cut both are 2 or 3.
        due("8/3 is nearer than 3", onALine(2, "aabdg").node(2, 1), 15);
        // {d, d, e} to b is 7/3, to g is 8/3: both are cut to 2.
        TaleTypes x = onALine(2, "gbdde");
        due("7/3 is nearer than 8/3", x.node(2, 1), 2 | 4 | 8 | 16);
        due("7/3 is cut", x.node(2, 0), 2);
        // {c, c} to a is 4/2, and e to g is 2: alike, so the least TALES.
        due("4/2 is 2", onALine(2, "gecca").node(1, 1), 3);
        due("2 is 4/2", onALine(2, "accge").node(1, 1), 7);
        // b to {d, e} is 5/2, f to {d, e} 3/2: to d alone f is 2 as b is.
        due("the mean, not the least", onALine(2, "bdef").node(1, 1), 14);
    }

    private void heightOfKindTwoIsCut() {
        sentence = "of KIND 2 cut to a whole number";
        TaleTypes half = onALine(2, "abc");
        due("3/2", half.node(1, 0), 1);
        due("types at 1: cut, both nodes are JOINED", half.types(1, 0), 1);
        due("types at 0", half.types(0, 0), 3);
        TaleTypes less = onALine(2, "aaabh");
        due("1", less.node(2, 0), 1);
        due("27/4", less.node(3, 0), 6);
        due("types at 5", less.types(5, 0), 2);
        due("types at 6", less.types(6, 0), 1);
        TaleTypes under = onALine(2, "aab");
        under.cost(2, 0);
        due("0", under.node(1, 0), 0);
        TaleTypes third = with("aa", "aa", "ab", "aa");
        third.kind(2);
        due("below 1 is cut to 0 only if it is below", third.node(2, 0), 1);
    }

    private void typesAtHeights() {
        sentence = "TYPES at h (0 .. 999): NODES as long as they are of HEIGHT h at most";
        TaleTypes x = onALine(0, "abdh");
        int[] many = {4, 3, 2, 2, 1, 1};
        for (int h = 0; h < many.length; h++) {
            due("at " + h, x.types(h, 0), many[h]);
        }
        due("at 999", x.types(999, 0), 1);
        due("at 1000", x.types(1000, 0), OUTSIDE);
        due("at -1", x.types(-1, 0), OUTSIDE);
        due("at 999, of a TALE", x.types(999, 4), 15);
        due("at 1000, of a TALE", x.types(1000, 4), OUTSIDE);
        due("at -1, of a TALE", x.types(-1, 1), OUTSIDE);
        TaleTypes far = with("aaaaaaaaaa", "hhhhhhhhhh");
        far.cost(0, 9);
        far.cost(2, 9);
        far.cost(3, 9);
        due("one below the HEIGHT", far.types(89, 0), 2);
        due("by itself", far.types(89, 1), 1);
        due("at the HEIGHT", far.types(90, 0), 1);
        due("together", far.types(90, 2), 3);
        due("alike ones at 0", with("b", "a", "b").types(0, 0), 2);
        due("which", with("b", "a", "b").types(0, 3), 5);
        due("the other", with("b", "a", "b").types(0, 2), 2);
    }

    private void typesOfEachCount() {
        sentence = "what = 0 how many; else, what less 1 a TALE; UNKNOWN (the TALE), OUTSIDE";
        for (int tales = 0; tales <= 8; tales++) {
            TaleTypes x = count(tales);
            due("at 0", x.types(0, 0), tales);
            due("at 1", x.types(1, 0), Math.min(tales, 1));
            for (int what = 1; what <= 10; what++) {
                boolean is = what <= tales;
                due("types(0, " + what + ")", x.types(0, what), is ? 1 << (what - 1) : UNKNOWN);
                due("types(1, " + what + ")", x.types(1, what), is ? (1 << tales) - 1 : UNKNOWN);
                due("types(1000, " + what + ")", x.types(1000, what), is ? OUTSIDE : UNKNOWN);
                due("types(-1, " + what + ")", x.types(-1, what), is ? OUTSIDE : UNKNOWN);
            }
            int[] no = {MIN, -2, -1, 9, 33, 34, MAX};
            for (int what : no) {
                due("types(0, " + what + ")", x.types(0, what), UNKNOWN);
                due("types(MAX, " + what + ")", x.types(MAX, what), UNKNOWN);
            }
        }
    }

    private void middleOfLikeOnes() {
        sentence = "MIDDLE: the one of the least sum; of like ones the least; NONE: of none";
        TaleTypes x = onALine(0, "hgbadddd");
        due("of none", x.middle(0), NONE);
        due("of two", x.middle(3), 0);
        due("of two others", x.middle(12), 2);
        due("of four", x.middle(15), 1);
        due("of the like ones", x.middle(240), 4);
        due("of the last two", x.middle(192), 6);
        due("of all", x.middle(255), 4);
        due("it is one of the SET", x.middle(9), 0);
        due("the last by itself", x.middle(128), 7);
        due("none of none", new TaleTypes().middle(0), NONE);
        TaleTypes y = onALine(0, "ace");
        due("MIDDLE of a NODE, of like ones the least", y.node(0, 3), 0);
        due("MIDDLE of the last NODE", y.node(1, 3), 1);
    }

    private void setsOfTalesOfEachCount() {
        sentence = "UNKNOWN (bits of TALES that there are not)";
        for (int tales = 0; tales <= 8; tales++) {
            TaleTypes x = count(tales);
            x.cost(0, 9);
            x.cost(3, 9);
            int all = (1 << tales) - 1;
            due("of none", x.middle(0), NONE);
            due("of none, common", x.common(0), 255);
            due("of all", x.middle(all), tales == 0 ? NONE : (tales - 1) / 2);
            due("of all, common", x.common(all), tales == 0 ? 255 : tales == 1 ? 1 : 0);
            for (int bit = tales; bit < 32; bit++) {
                due("middle, bit " + bit, x.middle(1 << bit), UNKNOWN);
                due("middle, bit " + bit + " and all", x.middle(1 << bit | all), UNKNOWN);
                due("common, bit " + bit, x.common(1 << bit), UNKNOWN);
                due("common, bit " + bit + " and all", x.common(1 << bit | all), UNKNOWN);
            }
            due("middle(-1)", x.middle(-1), UNKNOWN);
            due("common(-1)", x.common(-1), UNKNOWN);
            due("middle(MAX)", x.middle(MAX), UNKNOWN);
            due("common(MAX)", x.common(MAX), UNKNOWN);
        }
    }

    // ---- 1 and 3: places

    private void placesZeroToSeven() {
        sentence = "PLACES 0 .. 7; UNKNOWN: one twice, where two are asked";
        for (int p = -2; p <= 9; p++) {
            for (int q = -2; q <= 9; q++) {
                boolean are = p >= 0 && p <= 7 && q >= 0 && q <= 7 && p != q;
                TaleTypes x = new TaleTypes();
                due("road(" + p + ", " + q + ", true)", x.road(p, q, true), are ? 1 : UNKNOWN);
                due("road(" + p + ", " + q + ", false)", x.road(p, q, false), are ? 0 : UNKNOWN);
            }
        }
        int[] far = {MIN, 32, 33, MAX};
        for (int p : far) {
            due("road(" + p + ", 1)", new TaleTypes().road(p, 1, true), UNKNOWN);
            due("road(1, " + p + ")", new TaleTypes().road(1, p, true), UNKNOWN);
            due("road(" + p + ", " + p + ")", new TaleTypes().road(p, p, true), UNKNOWN);
        }
    }

    private void roadsGoBothWays() {
        sentence = "ROADS go both ways between two PLACES (none at first): how many";
        TaleTypes x = new TaleTypes();
        int roads = 0;
        for (int p = 0; p < 8; p++) {
            for (int q = p + 1; q < 8; q++) {
                due("none yet", x.wandered(1 << p | 1 << q, 0) == 1 ? 1 : 0, 0);
                due("one is not, away with it", x.road(q, p, false), roads);
                roads++;
                due("one more", x.road(p, q, true), roads);
                due("it is", x.wandered(1 << p | 1 << q, 0), 1);
                due("the same again", x.road(p, q, true), roads);
                due("the same, the other way", x.road(q, p, true), roads);
            }
        }
        due("all", roads, 28);
        TaleTypes y = new TaleTypes();
        for (int k = 0; k < 64; k++) {
            if (k / 8 != k % 8) y.road(k / 8, k % 8, true);
        }
        for (int p = 7; p >= 0; p--) {
            for (int q = 0; q < p; q++) {
                roads--;
                due("one less", y.road(p, q, false), roads);
                due("again", y.road(q, p, false), roads);
            }
        }
        due("none is left", y.wandered(3, 0), NONE);
        TaleTypes z = new TaleTypes();
        for (int p = 0; p < 7; p++) {
            z.road(7, p, true);
        }
        for (int p = 0; p < 7; p++) {
            due("one less, said the other way", z.road(p, 7, false), 6 - p);
        }
        z.road(0, 5, true);
        z.road(4, 5, true);
        z.road(4, 5, false);
        due("gone both ways: not from 5 to 4", z.wandered(1 | 16 | 32, 0), NONE);
        z.road(5, 4, true);
        z.road(5, 4, false);
        due("gone both ways, said the other way", z.wandered(1 | 16 | 32, 0), NONE);
        z.road(5, 4, true);
        due("both ways again", z.wandered(1 | 16, 1), 1 | 16 | 32);
    }

    private void wanderedOfOneOrNone() {
        sentence = "(0 for one, or none, by itself.)";
        TaleTypes bare = new TaleTypes();
        TaleTypes whole = new TaleTypes();
        for (int k = 0; k < 64; k++) {
            if (k / 8 != k % 8) whole.road(k / 8, k % 8, true);
        }
        TaleTypes[] both = {bare, whole};
        for (TaleTypes x : both) {
            due("none", x.wandered(0, 0), 0);
            due("none, by which", x.wandered(0, 1), 0);
            for (int p = 0; p < 8; p++) {
                due("one", x.wandered(1 << p, 0), 0);
                due("one, by which", x.wandered(1 << p, 1), 1 << p);
            }
        }
        due("all, no road", bare.wandered(255, 0), NONE);
        due("all, all roads", whole.wandered(255, 0), 7);
        due("all, by which", whole.wandered(255, 1), 255);
        int[] no = {MIN, -1, 256, 257, MAX};
        for (int set : no) {
            due("wandered(" + set + ", 0)", whole.wandered(set, 0), UNKNOWN);
            due("wandered(" + set + ", 2)", whole.wandered(set, 2), UNKNOWN);
        }
        int[] noWhat = {MIN, -1, 2, MAX};
        for (int what : noWhat) {
            due("wandered(0, " + what + ")", whole.wandered(0, what), OUTSIDE);
            due("wandered(255, " + what + ")", whole.wandered(255, what), OUTSIDE);
        }
    }

    private void wanderedOverOthers() {
        sentence = "the fewest ROADS by which all of them hang together (perhaps over others)";
        TaleTypes row = new TaleTypes();
        for (int p = 0; p < 7; p++) {
            row.road(p, p + 1, true);
        }
        due("from end to end", row.wandered(129, 0), 7);
        due("over all", row.wandered(129, 1), 255);
        due("one between", row.wandered(5, 1), 7);
        due("the last two", row.wandered(192, 0), 1);
        TaleTypes star = new TaleTypes();
        for (int p = 0; p < 7; p++) {
            star.road(7, p, true);
        }
        due("over the last place", star.wandered(3, 1), 131);
        due("all but the midst", star.wandered(127, 0), 7);
        due("all but the midst, by which", star.wandered(127, 1), 255);
        TaleTypes low = new TaleTypes();
        for (int p = 1; p < 8; p++) {
            low.road(0, p, true);
        }
        due("over the first place", low.wandered(192, 1), 193);
        due("two roads", low.wandered(192, 0), 2);
        // A tree that runs back and forth: 0 7 1 6 2 5 3 4.
        TaleTypes back = new TaleTypes();
        int[] way = {0, 7, 1, 6, 2, 5, 3, 4};
        for (int k = 0; k < 7; k++) {
            back.road(way[k], way[k + 1], true);
        }
        due("0 and 4", back.wandered(17, 0), 7);
        due("4 and 2", back.wandered(20, 1), 4 | 32 | 8 | 16);
    }

    private void wanderedOfAsFewTheLeast() {
        sentence = "of as few ROADS the least number";
        TaleTypes x = new TaleTypes();
        int[] between = {6, 3, 5, 2, 4};
        for (int p : between) {
            x.road(0, p, true);
            x.road(p, 7, true);
        }
        due("over 2 of 2 .. 6", x.wandered(129, 1), 133);
        x.road(0, 2, false);
        due("over 3", x.wandered(129, 1), 137);
        x.road(3, 7, false);
        due("over 4", x.wandered(129, 1), 145);
        due("two roads", x.wandered(129, 0), 2);
        x.road(0, 7, true);
        due("fewer ROADS ahead of all", x.wandered(129, 1), 129);
        // Two ways of two between: 1 2 (lesser number) or 0 6 (greater number, though with 0).
        TaleTypes y = new TaleTypes();
        int[][] roads = {{3, 0}, {0, 6}, {6, 4}, {3, 1}, {1, 2}, {2, 4}};
        for (int[] r : roads) {
            y.road(r[0], r[1], true);
        }
        due("1 and 2 are less than 0 and 6", y.wandered(24, 1), 24 | 2 | 4);
        // More places can be a lesser number: 7 alone is 128, 0 and 1 are 3.
        TaleTypes z = new TaleTypes();
        int[][] others = {{2, 7}, {7, 3}, {2, 0}, {0, 1}, {1, 3}};
        for (int[] r : others) {
            z.road(r[0], r[1], true);
        }
        due("fewer ROADS ahead of a lesser number", z.wandered(12, 1), 12 | 128);
    }

    private void wanderedNone() {
        sentence = "NONE: they do not hang together";
        TaleTypes x = with("a");
        for (int p = 0; p < 6; p++) {
            x.road(p, p + 1, true);
        }
        due("all but the last", x.wandered(127, 0), 6);
        due("the last too", x.wandered(255, 0), NONE);
        due("by which", x.wandered(255, 1), NONE);
        due("told at them", x.at(0, 255), NONE);
        due("of the TALE", x.taleAt(0, 2), NONE);
        due("of the TALE, by which", x.taleAt(0, 3), NONE);
        x.road(6, 7, true);
        due("they do now", x.taleAt(0, 2), 7);
        due("they do now, by which", x.taleAt(0, 3), 255);
        x.road(3, 4, false);
        due("in the midst", x.taleAt(0, 2), NONE);
        due("one side", x.wandered(15, 0), 3);
        due("the other side", x.wandered(240, 0), 3);
        due("across", x.wandered(24, 1), NONE);
    }

    private void toldAtSets() {
        sentence = "TOLD AT a SET of PLACES (none at first); at: 0 .. 255";
        for (int tales = 0; tales <= 8; tales++) {
            TaleTypes x = count(tales);
            for (int t = -1; t <= 8; t++) {
                boolean is = t >= 0 && t < tales;
                due("at first", x.taleAt(t, 1), is ? 0 : UNKNOWN);
                due("at(" + t + ", 256)", x.at(t, 256), is ? OUTSIDE : UNKNOWN);
                due("at(" + t + ", -1)", x.at(t, -1), is ? OUTSIDE : UNKNOWN);
                due("at(" + t + ", MIN)", x.at(t, MIN), is ? OUTSIDE : UNKNOWN);
                due("at(" + t + ", MAX)", x.at(t, MAX), is ? OUTSIDE : UNKNOWN);
                due("still", x.taleAt(t, 1), is ? 0 : UNKNOWN);
                due("at(" + t + ", 255)", x.at(t, 255), is ? NONE : UNKNOWN);
                due("told there", x.taleAt(t, 1), is ? 255 : UNKNOWN);
                due("at(" + t + ", 128)", x.at(t, 128), is ? 0 : UNKNOWN);
                due("at(" + t + ", 0)", x.at(t, 0), is ? 0 : UNKNOWN);
                due("told nowhere", x.taleAt(t, 1), is ? 0 : UNKNOWN);
            }
            due("at(MIN, 0)", x.at(MIN, 0), UNKNOWN);
            due("at(MAX, 256)", x.at(MAX, 256), UNKNOWN);
        }
    }

    // ---- 3: what all have, what is like, the book

    private void allHave() {
        sentence = "ALL HAVE: MOTIFS that are in all TALES of a SET (all 8 for none)";
        due("no TALE", new TaleTypes().told(5), 255);
        due("no TALE, of none", new TaleTypes().common(0), 255);
        TaleTypes x = with("abcdefgh", "hgfedcba", "h", "abcdefg");
        due("of none", x.common(0), 255);
        due("of all eight", x.common(3), 255);
        due("the last motif", x.common(7), 128);
        due("all but the last", x.common(11), 127);
        due("none", x.common(15), 0);
        due("told", x.told(5), 0);
        x.take(3);
        due("told of three", x.told(5), 128);
        TaleTypes ten = with("hhhhhhhhha", "bhhhhhhhhh");
        due("the tenth counts", ten.common(1), 129);
        due("the first counts", ten.common(2), 130);
        TaleTypes y = with("a");
        y.take(0);
        due("none any more", y.told(5), 255);
    }

    private void likeWhatIsTyped() {
        sentence = "LIKE: of like ones the least; NONE: there is none, nothing is TYPED";
        due("neither", new TaleTypes().told(4), NONE);
        TaleTypes x = new TaleTypes();
        x.feed('d');
        due("there is none", x.told(4), NONE);
        x.tale();
        due("nothing is TYPED", x.told(4), NONE);
        x.feed('a');
        due("the only one, however far", x.told(4), 0);
        x.take(0);
        due("none any more", x.told(4), NONE);
        TaleTypes y = with("h", "c", "e", "c", "e");
        y.feed('d');
        due("of like ones the least", y.told(4), 1);
        y.take(1);
        due("e has its number", y.told(4), 1);
        y.take(1);
        due("c again", y.told(4), 1);
        TaleTypes z = with("a", "b", "c", "d", "e", "f", "g", "hhhhhhhhhh");
        type(z, "hhhhhhhhhh");
        due("ten letters, the eighth TALE", z.told(4), 7);
    }

    private void bookTwentyAtMost() {
        sentence = "THE BOOK (20 at most); write: FULL (20); tear: how much it had";
        TaleTypes x = with("ab", "ba");
        due("none", x.told(6), 0);
        due("tear() of none", x.tear(), 0);
        for (int round = 0; round < 2; round++) {
            for (int k = 1; k <= 20; k++) {
                due("entry " + k, x.write(k % 2, 0, 2 * (k % 2)), k);
                due("so many", x.told(6), k);
            }
            due("one more", x.write(0, 0, 0), FULL);
            due("UNKNOWN ahead of FULL", x.write(2, 0, 0), UNKNOWN);
            due("UNKNOWN ahead of FULL", x.write(0, -1, 0), UNKNOWN);
            due("twenty", x.told(6), 20);
            due("none is WRONG", x.told(7), NONE);
            due("tear()", x.tear(), 20);
            due("no BOOK", x.told(6), 0);
            due("nothing is WRONG in none", x.told(7), NONE);
            due("tear() again", x.tear(), 0);
        }
        int[] any = {MIN, -1000000001, -1, 0, 1, MAX};
        for (int v : any) {
            due("APART " + v + ", any", x.write(0, 0, v), 1);
            due("WRONG, if not 0", x.told(7), v == 0 ? NONE : 0);
            x.tear();
        }
        due("no deed", x.told(8), 2);
    }

    private void wrongIsTheFirst() {
        sentence = "WRONG: the first that is otherwise now; NONE";
        for (int wrong = 0; wrong < 20; wrong++) {
            TaleTypes x = with("ab", "ba");
            for (int k = 0; k < 20; k++) {
                x.write(0, 1, k == wrong || k == 19 ? 3 : 2);
            }
            due("entry " + wrong, x.told(7), wrong);
        }
        TaleTypes y = with("ab", "ba");
        y.write(0, 1, 2);
        due("right", y.told(7), NONE);
        y.cost(1, 1);
        due("otherwise now", y.told(7), 0);
        y.cost(1, 2);
        due("right again", y.told(7), NONE);
        y.cost(1, 1);
        y.undo(1);
        due("right, undone", y.told(7), NONE);
        y.keep(0);
        y.cost(1, 1);
        y.goBack(0);
        due("right, gone back", y.told(7), NONE);
        due("the BOOK is in no IMAGE", y.told(6), 1);
    }

    private void wrongIfThereIsNoMore() {
        sentence = "(one that there is no more: it is, too)";
        TaleTypes x = with("ab", "ab", "ab");
        x.write(0, 1, 0);
        x.write(2, 0, 0);
        x.write(0, 2, 0);
        due("right", x.told(7), NONE);
        x.take(2);
        due("the first of two is no more", x.told(7), 1);
        x.undo(1);
        due("it is again", x.told(7), NONE);
        x.take(0);
        due("by numbers: there is no TALE 2", x.told(7), 1);
        x.take(0);
        due("there is no TALE 1", x.told(7), 0);
        x.take(0);
        due("there is none", x.told(7), 0);
        TaleTypes y = with("ab", "ab");
        y.write(0, 1, 0);
        y.take(1);
        due("the other is no more", y.told(7), 0);
        type(y, "ab");
        y.tale();
        due("there is a TALE 1 again", y.told(7), NONE);
    }

    // ---- 3: by draws

    private void seedBounds() {
        sentence = "THE SEED (0 at first); seed: 0 .. 2147483647";
        TaleTypes x = new TaleTypes();
        due("at first", x.seed(MAX), 0);
        due("-1", x.seed(-1), OUTSIDE);
        due("MIN", x.seed(MIN), OUTSIDE);
        due("the greatest", x.seed(1), MAX);
        due("the least", x.seed(0), 1);
        due("0 again", x.seed(0), 0);
        due("no deed", x.told(8), 0);
    }

    private static long next(long seed) {
        return (seed * 1103515245L + 12345L) % 2147483648L;
    }

    /** One time BY DRAWS, told once more; the seed behind it. */
    private long drawn(TaleTypes x, int t, long seed) {
        long s = next(seed);
        int length = (int) (s / 65536 % 7) + 2;
        due("so many MOTIFS", x.taleAt(t, 0), length);
        for (int i = 0; i < length; i++) {
            s = next(s);
            due("motif " + i, x.motif(t, i), (int) (s / 65536 % 5));
        }
        due("no more", x.motif(t, length), NONE);
        s = next(s);
        due("TOLD AT", x.taleAt(t, 1), (int) (s / 65536 % 256));
        return s;
    }

    private void drawsWrapAround() {
        sentence = "it times 1103515245 and 12345, left over by 2 to the 31";
        int[] seeds = {0, 1, 2, 3, 65535, 65536, 1 << 30, (1 << 30) - 1, MAX - 1, MAX};
        for (int seed : seeds) {
            TaleTypes x = new TaleTypes();
            x.seed(seed);
            due("drift(2)", x.drift(2), 2);
            long s = drawn(x, 0, seed);
            s = drawn(x, 1, s);
            due("THE SEED then", x.seed(0), (int) s);
        }
    }

    private void drawsAreFromTwoToEight() {
        sentence = "a DRAW of 7, and 2: so many MOTIFS, each a DRAW of 5; then a DRAW of 256";
        boolean[] lengths = new boolean[11];
        boolean[] motifs = new boolean[8];
        long s = 20261118L;
        for (int round = 0; round < 20; round++) {
            TaleTypes x = new TaleTypes();
            x.seed((int) s);
            x.drift(8);
            for (int t = 0; t < 8; t++) {
                s = drawn(x, t, s);
                lengths[x.taleAt(t, 0)] = true;
                for (int i = 0; i < x.taleAt(t, 0); i++) {
                    motifs[x.motif(t, i)] = true;
                }
            }
        }
        for (int length = 0; length <= 10; length++) {
            check.isTrue(sentence + ": so many as " + length, lengths[length] == (length >= 2 && length <= 8));
        }
        for (int motif = 0; motif < 8; motif++) {
            check.isTrue(sentence + ": motif " + motif, motifs[motif] == motif < 5);
        }
    }

    private void drawsWhileThereIsRoom() {
        sentence = "n times (1 .. 8), while there is room";
        for (int n = -2; n <= 11; n++) {
            boolean taken = n >= 1 && n <= 8;
            TaleTypes x = new TaleTypes();
            due("drift(" + n + ")", x.drift(n), taken ? n : OUTSIDE);
            due("so many deeds", x.told(8), taken ? n : 0);
            due("THE SEED", x.seed(0) == 0 ? 1 : 0, taken ? 0 : 1);
        }
        for (int tales = 0; tales <= 8; tales++) {
            TaleTypes x = count(tales);
            due("drift(8) behind " + tales, x.drift(8), 8);
            due("each of the times is a deed", x.told(8), 8);
            long s = 0;
            for (int t = tales; t < 8; t++) {
                s = drawn(x, t, s);
            }
            due("no DRAW without room", x.seed((int) s), (int) s);
            due("drift(1) without room", x.drift(1), 8);
            due("no DRAW", x.seed(0), (int) s);
            due("no deed", x.told(8), 8);
            due("OUTSIDE all the same", x.drift(9), OUTSIDE);
            due("undone one by one", x.undo(1), 7);
        }
        TaleTypes y = new TaleTypes();
        y.feed('a');
        y.drift(1);
        due("what is TYPED stays", y.told(1), 1);
    }

    // ---- 3: undone

    private void sixteenAtMostAreKept() {
        sentence = "16 at most are kept";
        for (int deeds = 0; deeds <= 40; deeds++) {
            TaleTypes x = new TaleTypes();
            for (int k = 1; k <= deeds; k++) {
                x.cost(2, k % 10);
            }
            int kept = Math.min(deeds, 16);
            due("of " + deeds, x.told(8), kept);
            if (kept > 0) {
                due("all of them", x.undo(kept), 0);
                due("as ahead of them", x.costAt(2), deeds <= 16 ? 1 : (deeds - 16) % 10);
            }
            due("no more", x.told(8), 0);
            due("no more", x.undo(1), NOT);
        }
    }

    private void undoBoundsOfEachCount() {
        sentence = "undo: (1 .. 16); OUTSIDE, NOT: not so many";
        for (int deeds = 0; deeds <= 18; deeds++) {
            int kept = Math.min(deeds, 16);
            for (int n = -1; n <= 18; n++) {
                TaleTypes x = new TaleTypes();
                for (int k = 1; k <= deeds; k++) {
                    x.cost(2, k % 10);
                }
                int want = n < 1 || n > 16 ? OUTSIDE : n > kept ? NOT : 0;
                due("undo(" + n + ") of " + deeds, x.undo(n), want);
                due("how many can be undone", x.told(8), want == 0 ? kept - n : kept);
                int before = want == 0 ? deeds - n : deeds;
                due("what is so", x.costAt(2), before == 0 ? 1 : before % 10);
            }
            TaleTypes y = new TaleTypes();
            due("undo(MIN)", y.undo(MIN), OUTSIDE);
            due("undo(MAX)", y.undo(MAX), OUTSIDE);
        }
    }

    private void undoRoundTheRing() {
        sentence = "The n latest are undone";
        TaleTypes x = new TaleTypes();
        for (int k = 1; k <= 14; k++) {
            x.cost(2, k % 10);
        }
        x.undo(3);
        due("11 are left", x.told(8), 11);
        for (int k = 0; k < 8; k++) {
            x.kind(k % 3);
        }
        due("sixteen again", x.told(8), 16);
        due("undo(8)", x.undo(8), 0);
        due("no KIND", x.told(2), 0);
        due("the eleventh cost", x.costAt(2), 1);
        due("undo(8)", x.undo(8), 0);
        due("the third cost", x.costAt(2), 3);
        due("no more", x.undo(1), NOT);
        due("what came ahead stays", x.costAt(2), 3);
    }

    private void eachDeedIsUndone() {
        sentence = "tale(), take(), cost(), kind(), road(), at(), each of the times BY DRAWS";
        Script start = new Script("start", "tell abc; tell cab; tell bb; at 1 3; road 0 1 1; keep 0; type de");
        String[] deeds = {"tale", "take 0", "take 2", "cost 0 9", "cost 1 9", "cost 2 9", "cost 3 9", "kind 2",
            "road 1 2 1", "road 0 1 0", "at 1 0", "at 2 255", "drift 1",
            "cost 0 2", "kind 0", "road 0 1 1", "road 4 5 0", "at 1 3"};
        String[] questions = {"told 0", "told 2", "told 3", "told 5", "taleAt 0 0", "taleAt 1 1", "taleAt 1 2", "taleAt 2 1",
            "taleAt 3 0", "motif 0 0", "motif 1 0", "motif 2 0", "motif 3 0", "costAt 0", "costAt 1", "costAt 2", "costAt 3",
            "wandered 3 0", "wandered 6 0", "wandered 48 0", "pair 0 1 0", "node 0 0", "node 1 0", "node 1 1", "types 2 0"};
        for (String deed : deeds) {
            Run done = start.run();
            Run not = start.run();
            done.ask("node 0 0");
            done.ask(deed);
            due(deed + " is a deed", done.ask("told 8"), 1);
            done.ask("node 0 0");
            due(deed + " undone", done.ask("undo 1"), 3);
            due("none is left", done.ask("told 8"), 0);
            for (String q : questions) {
                due(deed + " undone, " + q, done.ask(q), not.ask(q));
            }
        }
        String[] others = {"feed 97", "write 0 0 0", "tear", "seed 5", "told 7", "wandered 3 1", "middle 7", "common 7"};
        for (String call : others) {
            Run run = start.run();
            run.ask("kind 1");
            run.ask(call);
            due(call + " is no deed", run.ask("told 8"), 1);
        }
    }

    private void seedAndTypedStay() {
        sentence = "THE SEED, what is TYPED stay";
        TaleTypes x = with("ab");
        type(x, "cd");
        due("undo of tale()", x.undo(1), 0);
        due("what is TYPED now", x.told(1), 2);
        x.tale();
        due("c", x.motif(0, 0), 2);
        due("d", x.motif(0, 1), 3);
        x.undo(1);
        due("nothing is TYPED: it is not typed again", x.told(1), 0);
        due("tale()", x.tale(), NOT);
        TaleTypes y = new TaleTypes();
        y.drift(1);
        int seed = y.seed(0);
        y.seed(seed);
        y.undo(1);
        due("THE SEED is as behind the DRAWS", y.seed(8), seed);
        y.kind(1);
        y.seed(9);
        y.undo(1);
        due("a new one stays", y.seed(0), 9);
        TaleTypes z = with("a");
        z.write(0, 0, 0);
        z.undo(1);
        due("THE BOOK is not named among what is undone", z.told(6), 1);
        due("its TALE is no more", z.told(7), 0);
    }

    // ---- 3: images

    private void undoneSinceTheImage() {
        sentence = "since the IMAGE; (nothing can be undone then)";
        for (int i = 0; i < 2; i++) {
            TaleTypes x = count(3);
            due("keep(" + i + ")", x.keep(i), 1);
            due("nothing can be undone", x.told(8), 0);
            due("undo(1)", x.undo(1), NOT);
            due("what is so stays", x.told(0), 3);
            x.take(0);
            due("one can", x.told(8), 1);
            due("undo(2)", x.undo(2), NOT);
            x.take(0);
            due("goBack(" + i + ")", x.goBack(i), 1);
            due("nothing can be undone again", x.told(8), 0);
            due("undo(1)", x.undo(1), NOT);
            x.kind(1);
            x.kind(2);
            due("undo(2)", x.undo(2), 3);
            due("as the IMAGE", x.told(2), 0);
            due("undo(1)", x.undo(1), NOT);
        }
        TaleTypes full = new TaleTypes();
        for (int k = 0; k < 16; k++) {
            full.cost(2, k % 10);
        }
        full.keep(0);
        due("sixteen are forgotten", full.undo(16), NOT);
        for (int k = 0; k < 16; k++) {
            full.cost(0, 1 + k % 9);
        }
        due("sixteen since", full.undo(16), 0);
        due("as the IMAGE", full.costAt(0), 2);
        due("as the IMAGE", full.costAt(2), 5);
    }

    private void imagesZeroAndOne() {
        sentence = "IMAGES 0, 1; UNKNOWN, NOT: it was not kept";
        int[] no = {MIN, -1, 2, 3, MAX};
        for (int i : no) {
            TaleTypes x = count(2);
            due("keep(" + i + ")", x.keep(i), UNKNOWN);
            due("goBack(" + i + ")", x.goBack(i), UNKNOWN);
            x.keep(0);
            x.keep(1);
            due("goBack(" + i + "), both kept", x.goBack(i), UNKNOWN);
        }
        for (int i = 0; i < 2; i++) {
            TaleTypes x = count(2);
            due("goBack(" + i + ") ahead of keep", x.goBack(i), NOT);
            due("keep(" + i + ")", x.keep(i), 1);
            due("goBack to the other", x.goBack(1 - i), NOT);
            due("goBack(" + i + ")", x.goBack(i), 1);
            due("and again", x.goBack(i), 1);
            due("still not the other", x.goBack(1 - i), NOT);
        }
    }

    private void imagesKeepTheseAndTheSeed() {
        sentence = "IMAGES keep these, THE SEED";
        for (int i = 0; i < 2; i++) {
            TaleTypes x = with("ab", "cde");
            x.at(1, 6);
            x.road(1, 2, true);
            x.cost(0, 7);
            x.cost(1, 6);
            x.cost(2, 5);
            x.cost(3, 4);
            x.kind(2);
            x.seed(MAX);
            x.keep(i);
            type(x, "gh");
            x.write(0, 0, 0);
            x.take(1);
            x.take(0);
            x.road(1, 2, false);
            x.road(4, 5, true);
            for (int what = 0; what < 4; what++) {
                x.cost(what, 1);
            }
            x.kind(1);
            x.seed(0);
            x.keep(1 - i);
            due("goBack", x.goBack(i), 1);
            int[] got = {x.told(0), x.motif(0, 1), x.motif(1, 2), x.taleAt(1, 0), x.taleAt(1, 1), x.taleAt(1, 2), x.told(2),
                x.costAt(0), x.costAt(1), x.costAt(2), x.costAt(3), x.wandered(48, 0), x.told(1), x.told(6), x.told(3)};
            int[] want = {2, 1, 4, 3, 6, 1, 2, 7, 6, 5, 4, NONE, 2, 1, 1};
            for (int k = 0; k < want.length; k++) {
                due("answer " + k, got[k], want[k]);
            }
            due("THE SEED", x.seed(3), MAX);
            due("goBack to the other", x.goBack(1 - i), 1);
            due("no TALE", x.told(0), 0);
            due("GAP", x.costAt(0), 1);
            due("THE SEED", x.seed(3), 0);
            due("what is TYPED stays", x.told(1), 2);
            due("THE BOOK stays", x.told(6), 1);
        }
    }

    private void imagesStayAsTheyAre() {
        sentence = "IMAGE i becomes what is so; what is so becomes IMAGE i";
        TaleTypes x = with("a", "b");
        x.keep(0);
        x.take(0);
        x.keep(1);
        x.take(0);
        x.drift(8);
        x.undo(8);
        due("undo touches no IMAGE", x.goBack(0), 1);
        due("two", x.told(0), 2);
        x.cost(0, 9);
        x.at(0, 7);
        x.road(0, 1, true);
        x.goBack(1);
        due("one", x.told(0), 1);
        due("b", x.motif(0, 0), 1);
        x.goBack(0);
        due("GAP as it was kept", x.costAt(0), 2);
        due("told as it was kept", x.taleAt(0, 1), 0);
        due("no ROAD as it was kept", x.wandered(3, 0), NONE);
        due("a", x.motif(0, 0), 0);
        x.kind(2);
        due("keep(0) once more", x.keep(0), 1);
        x.kind(1);
        x.goBack(1);
        due("the other has its own KIND", x.told(2), 0);
        x.goBack(0);
        due("the later one counts", x.told(2), 2);
        TaleTypes tree = with("a", "h", "d");
        tree.keep(0);
        due("the TREE ahead", tree.node(1, 0), 3);
        due("the MIDDLE ahead", tree.middle(7), 0);
        tree.cost(3, 1);
        tree.cost(0, 9);
        due("the TREE between", tree.node(1, 0), 1);
        tree.goBack(0);
        due("the TREE as ahead", tree.node(1, 0), 3);
        due("TYPES as ahead", tree.types(2, 0), 3);
        TaleTypes y = new TaleTypes();
        y.keep(0);
        y.drift(8);
        y.goBack(0);
        due("an IMAGE of nothing", y.told(0), 0);
        due("its SEED", y.seed(0), 0);
    }
}
