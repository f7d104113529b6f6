/** Promises 1 to 39: each sentence of the document with calls at the edges that it names, and beside them. */
public final class EdgesTest {
    public static void main(String[] args) {
        TapeEdges.run();
        TextEdges.run();
        FaultEdges.run();
        FormulaEdges.run();
        LandEdges.run();
        DayEdges.run();
        AheadEdges.run();
        FleeceEdges.run();
        CuriousEdges.run();
        ActEdges.run();
        QuestionEdges.run();
        ImageEdges.run();
        Edge.allNamed();
        Due.close("EdgesTest");
    }
}
