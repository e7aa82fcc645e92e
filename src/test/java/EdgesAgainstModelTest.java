import java.util.List;

/** Every call with every choice of arguments from the edges, in each of the states, held against the model. */
public final class EdgesAgainstModelTest {
    private static final int MIN = Integer.MIN_VALUE, MAX = Integer.MAX_VALUE;
    private static final int[] EDGES = {MIN, MIN + 1, -257, -256, -128, -8, -2, -1, 0, 1, 2, 3, 4, 5, 6, 7, 8, 9, 10, 11, 15, 16,
        17, 20, 21, 31, 32, 33, 63, 64, 96, 97, 104, 105, 127, 128, 129, 254, 255, 256, 257, 353, 998, 999, 1000, 1001, 65633,
        MAX - 1, MAX};
    private static final int[] FEWER = {MIN, -1, 0, 1, 2, 3, 4, 6, 7, 8, 9, 19, 20, MAX};
    private static final List<String> ONE_NUMBER = List.of("feed", "told", "costAt", "middle", "common", "take", "kind",
        "drift", "undo", "seed", "keep", "goBack");
    private static final List<String> TWO_NUMBERS = List.of("taleAt", "motif", "node", "types", "wandered", "cost", "at");
    private static final List<String> THREE_NUMBERS = List.of("pair", "step", "road", "write");
    private static final int ENOUGH_CALLS = 200;

    private final Check check = new Check();
    private Script state;
    private Run run;
    private Model model;
    private int calls;

    public static void main(String[] args) {
        EdgesAgainstModelTest test = new EdgesAgainstModelTest();
        for (Script state : States.ALL) {
            test.state = state;
            test.beginAnew();
            test.sweep();
        }
        test.check.end("EdgesAgainstModelTest");
    }

    private void beginAnew() {
        run = state.run();
        model = state.onModel();
        calls = 0;
    }

    private void sweep() {
        hold(new Call("tale"));
        hold(new Call("tear"));
        for (String name : ONE_NUMBER) {
            for (int a : EDGES) hold(new Call(name, a));
        }
        for (String name : TWO_NUMBERS) {
            for (int a : EDGES) {
                for (int b : EDGES) hold(new Call(name, a, b));
            }
        }
        for (String name : THREE_NUMBERS) {
            for (int a : FEWER) {
                for (int b : FEWER) {
                    for (int c : FEWER) hold(new Call(name, a, b, c));
                }
            }
        }
    }

    /** A call that is taken may change what is so: the next begins anew. */
    private void hold(Call call) {
        int got = run.ask(call);
        check.due(state.name + ": " + call.text(), got, call.on(model));
        calls++;
        boolean asks = List.of("told", "taleAt", "motif", "costAt", "pair", "step", "node", "types", "middle", "common", "wandered")
            .contains(call.name());
        boolean refused = got <= TaleTypes.UNKNOWN;
        if (calls >= ENOUGH_CALLS || !asks && !refused) beginAnew();
    }
}
