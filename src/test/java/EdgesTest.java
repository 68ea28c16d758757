/**
 * The edges that the document names: for each sentence with one the last value that is taken and the first that is refused,
 * nothing there and no more room, numbers that wrap around, and calls that answer an error and change nothing. A wrong answer
 * is told with its sentence; and the test fails, too, if a word of the document stands neither in such a sentence nor in one
 * that is known to name no edge.
 */
public final class EdgesTest {
    public static void main(String[] args) throws Exception {
        Edges edges = new Edges();
        EdgesOfTerms.test(edges);
        EdgesOfForms.test(edges);
        EdgesOfFolding.test(edges);
        EdgesOfTexts.test(edges);
        EdgesOfChanges.test(edges);
        EdgesOfQuestions.test(edges);
        EdgesOfNumbers.test(edges);
        EdgesOfSaving.test(edges);
        edges.end();
    }
}
