/** Each sentence of the document that names a boundary has a test of its own, which names it. */
public final class EdgesTest {
    public static void main(String[] args) {
        Term1Edges.all();
        Term2Edges.all();
        Term3Edges.all();
        TableEdges.all();
        QueryEdges.all();
        PlanEdges.all();
        RunEdges.all();
        CallEdges.all();
        everySentenceIsNamed();
        System.out.println(Document.sentences() + " sentences named");
        Due.end();
    }

    private static void everySentenceIsNamed() {
        Due.aboutNoSentence();
        Document.isAllNamed("What it is");
        Document.isAllNamed("Terms");
        for (int promise = 1; promise <= 14; promise++) {
            Document.isAllNamed("Promise " + promise);
        }
    }
}
