import java.util.List;

/** States at the edges of the document, and between them, from which tests go on. */
final class States {
    static final Script NEW = new Script("a new object");

    static final Script MIDST = new Script("in the midst",
        "tell abc; tell bcd; tell cdb; road 0 1 1; road 1 2 1; at 0 5; cost 0 3; kind 1; seed 77",
        "write 0 1 2; write 1 1 0; keep 0; drift 1; at 3 9; road 1 2 0; type ab; told 7");

    static final Script BRIM = new Script("full of all",
        "tell a; tell hgfedcbaha; tell bc; keep 1; tell cb; tell dd; tell e; tell fgh; tell h; type aabbccddee",
        "write 0 0 0; write 0 1 7; write 1 0 7; write 7 7 0; write 2 3 1; write 2 3 2; write 2 3 3; write 5 6 MIN",
        "write 5 6 MAX; write 5 6 -1; write 0 7 0; write 0 7 1; write 0 7 2; write 0 7 3; write 0 7 4; write 6 7 0",
        "write 6 7 1; write 6 7 2; write 6 7 3; write 4 4 0; seed 5; keep 0",
        "cost 0 9; cost 1 9; cost 2 9; cost 3 9; kind 2; road 0 7 1; road 7 6 1; at 0 255; at 7 193; cost 0 1",
        "cost 1 1; cost 2 0; cost 3 1; kind 1; road 0 7 0; road 3 4 1; at 1 24; cost 2 1; seed MAX");

    static final Script EMPTIED = new Script("emptied again",
        "tell ab; at 0 3; write 0 0 0; road 0 1 1; keep 1; tell cd; take 0; take 0; seed 9");

    static final Script ONE = new Script("one tale", "tell h; seed 3; drift 2; undo 2; type c");

    static final Script EIGHT = new Script("eight tales, nothing typed", "drift 8");

    static final List<Script> ALL = List.of(NEW, MIDST, BRIM, EMPTIED, ONE, EIGHT);

    private States() {
    }
}
