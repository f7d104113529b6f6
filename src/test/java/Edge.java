import java.nio.file.Path;

/** An edge that the document names: a promise, the document's own words, and the answers due there and beside it. */
final class Edge {
    private static final Document DOC = new Document(Path.of("../shared/DOC.md"));
    private final String name;

    private Edge(String name) {
        this.name = name;
    }

    static Edge of(int promise, String words) {
        String name = "promise " + promise + ", \"" + words + "\": ";
        if (!DOC.name(promise, words)) {
            Due.is(name + "the document has these words", 0, 1);
        }
        return new Edge(name);
    }

    /** Every sentence of the document has to be an edge's. */
    static void allNamed() {
        for (String piece : DOC.unnamed()) {
            Due.is("edges for \"" + piece + "\"", 0, 1);
        }
    }

    void is(String call, long got, long want) {
        Due.is(name + call, got, want);
    }

    void is(String call, boolean got, boolean want) {
        Due.is(name + call, got, want);
    }

    /** Answers of 0, 1, .. as they are due. */
    void are(String call, int[] got, int... want) {
        is(call + ": how many", got.length, want.length);
        for (int i = 0; i < got.length && i < want.length; i++) {
            is(call + " " + i, got[i], want[i]);
        }
    }

    /** An upland without a fault. */
    StrayWool good(String text, int statements) {
        StrayWool x = new StrayWool();
        is("upland() of " + text, Due.upland(x, text), statements);
        is("fault(0) of " + text, x.fault(0), 0);
        is("fault(1) of " + text, x.fault(1), -1);
        return x;
    }

    /** An upland with a fault. */
    StrayWool fault(String text, int kind, int place) {
        StrayWool x = new StrayWool();
        is("upland() of " + text, Due.upland(x, text), -1);
        is("fault(0) of " + text, x.fault(0), kind);
        is("fault(1) of " + text, x.fault(1), place);
        return x;
    }

    void asks(StrayWool x, String question, long want) {
        is(question, Due.ask(x, question), want);
        is("fault(0) of " + question, x.fault(0), 0);
    }

    void askFault(StrayWool x, String question, int kind, int place) {
        is(question, Due.ask(x, question), StrayWool.NOTHING);
        is("fault(0) of " + question, x.fault(0), kind);
        is("fault(1) of " + question, x.fault(1), place);
    }
}
