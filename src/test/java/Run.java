/** A new object, and how many calls were made on it: the document says what it answers for 512 of them. */
final class Run {
    private static final int MOST_CALLS = 512;

    private final TaleTypes x = new TaleTypes();
    private int calls = 0;

    int ask(Call c) {
        calls++;
        if (calls > MOST_CALLS) {
            throw new IllegalStateException("a test makes more than 512 calls on one object");
        }
        return c.on(x);
    }

    int ask(String text) {
        return ask(Call.of(text));
    }

    /** The letters one by one; what the last of them answered. */
    int type(String letters) {
        int answer = 0;
        for (char letter : letters.toCharArray()) {
            answer = ask(new Call("feed", letter));
        }
        return answer;
    }

    int tell(String letters) {
        type(letters);
        return ask("tale");
    }
}
