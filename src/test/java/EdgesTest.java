/** All tests of boundary cases, and whether they leave out a sentence of the document. */
public final class EdgesTest {
    public static void main(String[] args) {
        Edges.runAll(EdgesOfTexts.class);
        Edges.runAll(EdgesOfLaws.class);
        Edges.runAll(EdgesOfCurves.class);
        Edges.runAll(EdgesOfDelays.class);
        Edges.runAll(EdgesOfUnits.class);
        Edges.runAll(EdgesOfAnswers.class);
        for (String words : Edges.document.unsaid()) {
            Edges.told.due("tests that look at: " + words, 0, 1);
        }
        Edges.told.end();
    }
}
