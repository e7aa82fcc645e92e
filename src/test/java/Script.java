import java.util.ArrayList;
import java.util.List;

/**
 * A run of calls that brings a new object to a state, written as a text: calls with ';' between.
 * "type abc" stands for three letters fed, "tell abc" for these and tale().
 */
final class Script {
    final String name;
    private final List<Call> calls = new ArrayList<>();

    Script(String name, String... parts) {
        this.name = name;
        for (String part : parts) {
            for (String one : part.split(";")) {
                add(one.trim());
            }
        }
    }

    private void add(String one) {
        if (one.isEmpty()) return;
        boolean told = one.startsWith("tell ");
        if (told || one.startsWith("type ")) {
            for (char letter : one.substring(5).toCharArray()) calls.add(new Call("feed", letter));
            if (told) calls.add(new Call("tale"));
        } else {
            calls.add(Call.of(one));
        }
    }

    /** Every call of a script is meant to be taken; one that is refused is a fault of the test. */
    Run run() {
        Run run = new Run();
        for (Call c : calls) {
            int answer = run.ask(c);
            if (answer <= TaleTypes.UNKNOWN) {
                throw new IllegalStateException("script " + name + ": " + c.text() + " answered " + answer);
            }
        }
        return run;
    }

    Model onModel() {
        Model m = new Model();
        for (Call c : calls) c.on(m);
        return m;
    }
}
