import java.util.ArrayList;
import java.util.List;

/**
 * REFUSALS: which one is due, of several the first in the document's order, and that what is refused
 * changes nothing. Each refused call is made on one of two objects that came to the same state;
 * afterwards all that can be asked of both, of what can be undone and of what is kept must be the same.
 */
public final class RefusalsTest {
    private static final List<String> QUESTIONS = List.of("told 0", "told 3", "told 4", "told 5", "told 7", "taleAt 0 3",
        "motif 0 0", "costAt 3", "pair 0 0 1", "step 0 0 0", "node 0 3", "types 2 0", "types 2 1", "middle 1", "middle 0",
        "common 0", "common 1", "wandered 255 0", "wandered 3 1");

    private final Check check = new Check();

    public static void main(String[] args) {
        RefusalsTest test = new RefusalsTest();
        for (Script state : States.ALL) {
            test.refusedEverywhere(state);
            test.askingChangesNothing(state);
        }
        test.refusedNew();
        test.refusedMidst();
        test.refusedBrim();
        test.refusedEmptied();
        test.refusedOne();
        test.refusedEight();
        test.check.end("RefusalsTest");
    }

    /** What is out of its bounds in every state. */
    private void refusedEverywhere(Script state) {
        refused(state, "UNKNOWN", "taleAt -1 0", "taleAt 8 0", "taleAt MIN 0", "taleAt MAX 3", "motif -1 0",
            "motif 8 0", "motif MIN 0", "motif MAX 0", "pair -1 0 0", "pair 8 0 0", "pair 0 -1 0", "pair 0 8 0",
            "step -1 0 0", "step 8 0 0", "step 0 -1 0", "step 0 8 0", "node -1 0", "node 7 0", "node MIN 0",
            "node MAX 0", "types 0 -1", "types 0 9", "types 0 MIN", "types 0 MAX", "middle 256", "middle -1",
            "middle MIN", "middle MAX", "common 256", "common -1", "common MIN", "common MAX", "wandered -1 0",
            "wandered 256 0", "wandered MIN 1", "wandered MAX 1", "take -1", "take 8", "take MIN", "take MAX",
            "road -1 0 1", "road 0 -1 1", "road 8 0 1", "road 0 8 1", "road MIN 0 0", "road 0 MAX 0", "at -1 0",
            "at 8 0", "at MIN 0", "at MAX 0", "write -1 0 0", "write 0 -1 0", "write 8 0 0", "write 0 8 0",
            "keep -1", "keep 2", "keep MIN", "keep MAX", "goBack -1", "goBack 2", "goBack MIN", "goBack MAX");
        for (int p = 0; p < 8; p++) {
            refused(state, "UNKNOWN", "road " + p + " " + p + " 1", "road " + p + " " + p + " 0");
        }
        refused(state, "OUTSIDE", "feed 96", "feed 105", "feed 0", "feed -1", "feed MIN", "feed MAX", "feed 353",
            "told -1", "told 9", "told MIN", "told MAX", "costAt -1", "costAt 4", "costAt MIN", "costAt MAX",
            "types -1 0", "types 1000 0", "types MIN 0", "types MAX 0", "wandered 0 -1", "wandered 0 2",
            "wandered 255 MIN", "wandered 255 MAX", "cost -1 1", "cost 4 1", "cost MIN 1", "cost MAX 1",
            "cost 0 0", "cost 0 10", "cost 1 0", "cost 1 10", "cost 2 -1", "cost 2 10", "cost 3 0", "cost 3 10",
            "cost 0 MIN", "cost 2 MAX", "cost 4 10", "kind -1", "kind 3", "kind MIN", "kind MAX", "drift 0",
            "drift 9", "drift -1", "drift MIN", "drift MAX", "undo 0", "undo 17", "undo -1", "undo MIN", "undo MAX",
            "seed -1", "seed MIN");
        // Of several the first.
        refused(state, "UNKNOWN", "taleAt 8 4", "taleAt -1 -1", "pair 8 0 4", "pair 0 8 -1", "pair 8 8 4",
            "node 7 4", "node -1 -1", "types 1000 9", "types -1 -1", "wandered 256 2", "wandered -1 -1",
            "at 8 256", "at -1 -1", "road 8 8 1", "road -1 -1 0");
    }

    private void refusedNew() {
        refused(States.NEW, "NOT", "tale", "undo 1", "undo 16", "goBack 0", "goBack 1");
        refused(States.NEW, "UNKNOWN", "taleAt 0 0", "taleAt 0 4", "motif 0 0", "pair 0 0 0", "pair 0 0 4", "step 0 0 0",
            "node 0 0", "node 0 4", "types 0 1", "types 1000 1", "middle 1", "common 1", "take 0", "at 0 0",
            "at 0 256", "write 0 0 0");
    }

    /** 4 tales, 3 deeds since image 0; image 1 was not kept; 2 entries. */
    private void refusedMidst() {
        refused(States.MIDST, "NOT", "undo 4", "undo 16", "goBack 1");
        refused(States.MIDST, "UNKNOWN", "taleAt 4 0", "taleAt 4 4", "motif 4 0", "pair 4 0 0", "pair 0 4 0", "pair 4 4 4",
            "step 4 0 0", "step 0 4 0", "node 3 0", "node 3 4", "types 0 5", "types 1000 5", "middle 16", "middle 31",
            "common 16", "common 17", "take 4", "at 4 0", "at 4 256", "write 4 0 0", "write 0 4 0");
        refused(States.MIDST, "OUTSIDE", "taleAt 3 4", "taleAt 3 -1", "pair 3 3 4", "pair 0 3 -1", "node 2 4", "node 0 -1",
            "types 1000 4", "types -1 1", "at 3 256", "at 3 -1", "at 0 MIN", "at 0 MAX");
    }

    /** 8 tales, 10 letters, 20 entries, 16 deeds, both images. */
    private void refusedBrim() {
        refused(States.BRIM, "FULL", "feed 97", "feed 104", "tale", "write 0 0 0", "write 7 0 MIN");
        // OUTSIDE, UNKNOWN ahead of FULL.
        refused(States.BRIM, "OUTSIDE", "feed 96", "feed 105");
        refused(States.BRIM, "UNKNOWN", "write 8 0 0", "write 0 8 0", "write -1 -1 0");
        refused(States.BRIM, "OUTSIDE", "taleAt 7 4", "pair 7 7 4", "node 6 4", "types 1000 8", "at 7 256");
    }

    /** No tale, 3 deeds since image 1, an entry about a tale that there is no more; nothing is typed. */
    private void refusedEmptied() {
        refused(States.EMPTIED, "NOT", "tale", "undo 4", "goBack 0");
        refused(States.EMPTIED, "UNKNOWN", "taleAt 0 0", "motif 0 0", "pair 0 0 0", "step 0 0 0", "node 0 0", "types 0 1",
            "middle 1", "common 1", "take 0", "at 0 0", "write 0 0 0");
    }

    /** One tale, told; a letter is typed; one deed. */
    private void refusedOne() {
        refused(States.ONE, "NOT", "undo 2", "goBack 0", "goBack 1");
        refused(States.ONE, "UNKNOWN", "taleAt 1 0", "motif 1 0", "pair 1 0 0", "pair 0 1 0", "step 1 0 0", "step 0 1 0",
            "node 0 0", "types 0 2", "middle 2", "middle 3", "common 2", "common 3", "take 1", "at 1 0", "write 1 0 0",
            "write 0 1 0");
    }

    /** tale() alone has FULL ahead of NOT: nothing is typed, and there is no room. */
    private void refusedEight() {
        refused(States.EIGHT, "FULL", "tale");
        refused(States.EIGHT, "NOT", "undo 9", "goBack 0");
    }

    private void askingChangesNothing(Script state) {
        Run asked = state.run();
        for (String question : QUESTIONS) {
            asked.ask(question);
        }
        check.isTrue(state.name + ": asking changes nothing", present(asked).equals(present(state.run())));
    }

    private void refused(Script state, String refusal, String... calls) {
        int due = number(refusal);
        for (String text : calls) {
            Call call = Call.of(text);
            String where = state.name + ": " + call.text();
            check.due(where, state.run().ask(call), due);
            check.isTrue(where + " changes nothing that is so", present(state.run()).equals(present(after(state, call))));
            check.isTrue(where + " changes nothing to undo", past(state.run()).equals(past(after(state, call))));
            check.isTrue(where + " changes no image", kept(state.run()).equals(kept(after(state, call))));
        }
    }

    private static Run after(Script state, Call call) {
        Run run = state.run();
        run.ask(call);
        return run;
    }

    private static int number(String refusal) {
        switch (refusal) {
            case "UNKNOWN": return -1000000001;
            case "OUTSIDE": return -1000000002;
            case "NOT": return -1000000003;
            case "FULL": return -1000000004;
            default: throw new IllegalStateException(refusal);
        }
    }

    /** All that is so; what is typed is told as a tale at last, and the seed is asked by a new one. */
    private static List<Integer> present(Run run) {
        List<Integer> all = lore(run);
        all.addAll(asks(run, "told", 9));
        int tales = all.get(0);
        for (int n = 0; n + 1 < tales; n++) {
            all.addAll(asks(run, "node " + n, 4));
        }
        for (int h = 0; h < 8; h += 3) {
            all.addAll(asks(run, "types " + h, tales + 1));
        }
        all.add(run.ask("seed 0"));
        all.add(run.ask("tear"));
        if (tales == 8) run.ask("take 0");
        int told = run.ask("tale");
        if (told >= 0) {
            all.addAll(asks(run, "motif " + told, 10));
        }
        return all;
    }

    /** What deeds change: tales, costs, kind, roads, where they are told. */
    private static List<Integer> lore(Run run) {
        List<Integer> all = new ArrayList<>();
        int tales = run.ask("told 0");
        all.add(tales);
        all.add(run.ask("told 2"));
        all.addAll(asks(run, "costAt", 4));
        for (int t = 0; t < tales; t++) {
            all.add(run.ask("taleAt " + t + " 1"));
            int length = run.ask("taleAt " + t + " 0");
            all.add(length);
            all.addAll(asks(run, "motif " + t, length));
        }
        all.addAll(roads(run));
        return all;
    }

    /** Two places have a road between them if they hang together by themselves. */
    private static List<Integer> roads(Run run) {
        List<Integer> all = new ArrayList<>();
        for (int p = 0; p < 8; p++) {
            for (int q = p + 1; q < 8; q++) {
                all.add(run.ask("wandered " + (1 << p | 1 << q) + " 0") == 1 ? 1 : 0);
            }
        }
        return all;
    }

    private static List<Integer> past(Run run) {
        List<Integer> all = new ArrayList<>();
        int deeds = run.ask("told 8");
        all.add(deeds);
        for (int k = 0; k < deeds; k++) {
            all.add(run.ask("undo 1"));
            all.add(run.ask("told 2"));
            all.addAll(asks(run, "costAt", 4));
            all.add(run.ask("wandered 129 0"));
            all.add(run.ask("taleAt 0 1"));
        }
        all.addAll(lore(run));
        return all;
    }

    private static List<Integer> kept(Run run) {
        List<Integer> all = new ArrayList<>();
        for (int i = 0; i < 2; i++) {
            int is = run.ask("goBack " + i);
            all.add(is);
            if (is == 1) {
                all.addAll(lore(run));
                all.add(run.ask("seed 0"));
            }
        }
        return all;
    }

    private static List<Integer> asks(Run run, String call, int count) {
        List<Integer> all = new ArrayList<>();
        for (int i = 0; i < count; i++) {
            all.add(run.ask(call + " " + i));
        }
        return all;
    }
}
