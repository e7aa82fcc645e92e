import java.util.Random;

/** Long mixed runs of calls, right and wrong ones, on the class and on the model: each answer is held against the other. */
public final class AgainstModelTest {
    private static final int RUNS = 400;
    private static final int CALLS = 512;
    private static final int MOST_AT_ONCE = 3;

    private final Check check = new Check();
    private final Random random = new Random(20261117L);
    private TaleTypes x;
    private Model m;
    private String run;
    /** Calls made on the object: what it answers is told for so many as CALLS. */
    private int made;
    /** Of so many times that a tale could be told it is once: some runs have short tales, some long ones. */
    private int patience;

    public static void main(String[] args) {
        AgainstModelTest test = new AgainstModelTest();
        for (int r = 0; r < RUNS; r++) {
            test.run(r);
        }
        test.check.end("AgainstModelTest");
    }

    private void run(int r) {
        x = new TaleTypes();
        m = new Model();
        int reach = 2 + r % 7;
        patience = 1 + r % 5;
        made = 0;
        while (made <= CALLS - MOST_AT_ONCE) {
            run = "run " + r + ", call " + made + ": ";
            if (random.nextInt(100) < 45) change(reach);
            else ask();
        }
    }

    private void hold(String call, int got, int want) {
        made++;
        check.due(run + call, got, want);
    }

    /** Mostly from 0 to most, now and then beside it or far off. */
    private int near(int most) {
        int k = random.nextInt(60);
        if (k == 0) return -1;
        if (k == 1) return most + 1;
        if (k == 2) return random.nextInt();
        if (k == 3) return random.nextBoolean() ? Integer.MIN_VALUE : Integer.MAX_VALUE;
        return random.nextInt(most + 1);
    }

    private int taleNumber() {
        int tales = m.told(0);
        return random.nextInt(20) == 0 ? near(8) : tales == 0 ? 0 : random.nextInt(tales);
    }

    private int taleSet() {
        int tales = m.told(0);
        return random.nextInt(20) == 0 ? near(255) : random.nextInt(1 << tales);
    }

    private void change(int reach) {
        int k = random.nextInt(40);
        if (k < 14) feed(reach);
        else if (k < 20) tale();
        else if (k < 22) take();
        else if (k < 24) cost();
        else if (k < 25) kind();
        else if (k < 29) road();
        else if (k < 31) at();
        else if (k < 32) drift();
        else if (k < 34) undo();
        else if (k < 37) write();
        else if (k < 38) images();
        else if (k < 39) seed();
        else if (random.nextInt(3) == 0) hold("tear()", x.tear(), m.tear());
        else feed(reach);
    }

    private void feed(int reach) {
        int letter = random.nextInt(30) == 0 ? near(200) : 97 + random.nextInt(reach);
        hold("feed(" + letter + ")", x.feed(letter), m.feed(letter));
    }

    private void tale() {
        if (random.nextInt(patience) > 0) return;
        hold("tale()", x.tale(), m.tale());
    }

    private void take() {
        int t = taleNumber();
        hold("take(" + t + ")", x.take(t), m.take(t));
    }

    private void cost() {
        int what = near(3);
        int v = near(9);
        hold("cost(" + what + ", " + v + ")", x.cost(what, v), m.cost(what, v));
    }

    private void kind() {
        int v = near(2);
        hold("kind(" + v + ")", x.kind(v), m.kind(v));
    }

    private void road() {
        int p = near(7);
        int q = near(7);
        boolean is = random.nextInt(3) > 0;
        hold("road(" + p + ", " + q + ", " + is + ")", x.road(p, q, is), m.road(p, q, is));
    }

    private void at() {
        int t = taleNumber();
        int set = near(255);
        hold("at(" + t + ", " + set + ")", x.at(t, set), m.at(t, set));
    }

    private void drift() {
        int n = near(8);
        hold("drift(" + n + ")", x.drift(n), m.drift(n));
    }

    private void undo() {
        int n = random.nextInt(4) == 0 ? near(16) : 1 + random.nextInt(4);
        hold("undo(" + n + ")", x.undo(n), m.undo(n));
    }

    private void write() {
        int t = taleNumber();
        int u = taleNumber();
        int right = m.pair(t, u, 0);
        int v = random.nextInt(5) == 0 ? near(20) : right;
        hold("write(" + t + ", " + u + ", " + v + ")", x.write(t, u, v), m.write(t, u, v));
    }

    private void images() {
        int i = near(1);
        if (random.nextBoolean()) hold("keep(" + i + ")", x.keep(i), m.keep(i));
        else hold("goBack(" + i + ")", x.goBack(i), m.goBack(i));
    }

    private void seed() {
        int v = random.nextBoolean() ? near(1000) : random.nextInt();
        hold("seed(" + v + ")", x.seed(v), m.seed(v));
    }

    private void ask() {
        int k = random.nextInt(20);
        if (k < 5) told();
        else if (k < 7) ofATale();
        else if (k < 10) ofTwo();
        else if (k < 12) node();
        else if (k < 15) types();
        else if (k < 18) ofASet();
        else wandered();
    }

    private void told() {
        int what = near(8);
        hold("told(" + what + ")", x.told(what), m.told(what));
    }

    private void ofATale() {
        int t = taleNumber();
        int i = near(10);
        int what = near(3);
        hold("motif(" + t + ", " + i + ")", x.motif(t, i), m.motif(t, i));
        hold("taleAt(" + t + ", " + what + ")", x.taleAt(t, what), m.taleAt(t, what));
        hold("costAt(" + what + ")", x.costAt(what), m.costAt(what));
    }

    private void ofTwo() {
        int t = taleNumber();
        int u = taleNumber();
        int what = near(3);
        int i = near(12);
        hold("pair(" + t + ", " + u + ", " + what + ")", x.pair(t, u, what), m.pair(t, u, what));
        hold("step(" + t + ", " + u + ", " + i + ")", x.step(t, u, i), m.step(t, u, i));
    }

    private void node() {
        int n = near(6);
        int what = near(3);
        hold("node(" + n + ", " + what + ")", x.node(n, what), m.node(n, what));
    }

    private void types() {
        int h = near(15);
        int what = near(8);
        hold("types(" + h + ", " + what + ")", x.types(h, what), m.types(h, what));
    }

    private void ofASet() {
        int set = taleSet();
        hold("middle(" + set + ")", x.middle(set), m.middle(set));
        hold("common(" + set + ")", x.common(set), m.common(set));
    }

    private void wandered() {
        int set = near(255);
        int what = near(1);
        hold("wandered(" + set + ", " + what + ")", x.wandered(set, what), m.wandered(set, what));
    }
}
