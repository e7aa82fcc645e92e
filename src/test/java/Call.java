import java.util.Arrays;
import java.util.stream.Collectors;

/** One call, as a text says it ("pair 0 1 3", "road 2 5 1"), to be made on the class or on the model. */
record Call(String name, int... args) {

    static Call of(String text) {
        String[] words = text.trim().split(" +");
        int[] numbers = new int[words.length - 1];
        for (int i = 0; i < numbers.length; i++) {
            numbers[i] = number(words[i + 1]);
        }
        return new Call(words[0], numbers);
    }

    private static int number(String word) {
        if (word.equals("MIN")) return Integer.MIN_VALUE;
        if (word.equals("MAX")) return Integer.MAX_VALUE;
        return Integer.parseInt(word);
    }

    String text() {
        return name + Arrays.stream(args).mapToObj(Integer::toString).collect(Collectors.joining(", ", "(", ")"));
    }

    int on(TaleTypes x) {
        switch (name) {
            case "feed": return x.feed(args[0]);
            case "tale": return x.tale();
            case "told": return x.told(args[0]);
            case "taleAt": return x.taleAt(args[0], args[1]);
            case "motif": return x.motif(args[0], args[1]);
            case "costAt": return x.costAt(args[0]);
            case "pair": return x.pair(args[0], args[1], args[2]);
            case "step": return x.step(args[0], args[1], args[2]);
            case "node": return x.node(args[0], args[1]);
            case "types": return x.types(args[0], args[1]);
            case "middle": return x.middle(args[0]);
            case "common": return x.common(args[0]);
            case "wandered": return x.wandered(args[0], args[1]);
            case "take": return x.take(args[0]);
            case "cost": return x.cost(args[0], args[1]);
            case "kind": return x.kind(args[0]);
            case "road": return x.road(args[0], args[1], args[2] == 1);
            case "at": return x.at(args[0], args[1]);
            case "drift": return x.drift(args[0]);
            case "undo": return x.undo(args[0]);
            case "write": return x.write(args[0], args[1], args[2]);
            case "tear": return x.tear();
            case "seed": return x.seed(args[0]);
            case "keep": return x.keep(args[0]);
            case "goBack": return x.goBack(args[0]);
            default: throw new IllegalStateException("no such call: " + name);
        }
    }

    int on(Model m) {
        switch (name) {
            case "feed": return m.feed(args[0]);
            case "tale": return m.tale();
            case "told": return m.told(args[0]);
            case "taleAt": return m.taleAt(args[0], args[1]);
            case "motif": return m.motif(args[0], args[1]);
            case "costAt": return m.costAt(args[0]);
            case "pair": return m.pair(args[0], args[1], args[2]);
            case "step": return m.step(args[0], args[1], args[2]);
            case "node": return m.node(args[0], args[1]);
            case "types": return m.types(args[0], args[1]);
            case "middle": return m.middle(args[0]);
            case "common": return m.common(args[0]);
            case "wandered": return m.wandered(args[0], args[1]);
            case "take": return m.take(args[0]);
            case "cost": return m.cost(args[0], args[1]);
            case "kind": return m.kind(args[0]);
            case "road": return m.road(args[0], args[1], args[2] == 1);
            case "at": return m.at(args[0], args[1]);
            case "drift": return m.drift(args[0]);
            case "undo": return m.undo(args[0]);
            case "write": return m.write(args[0], args[1], args[2]);
            case "tear": return m.tear();
            case "seed": return m.seed(args[0]);
            case "keep": return m.keep(args[0]);
            case "goBack": return m.goBack(args[0]);
            default: throw new IllegalStateException("no such call: " + name);
        }
    }
}
