/** Each sentence of the document, with a test of its own for the cases at the edge that it names. */
public final class EdgesTest {
    public static void main(String[] args) {
        Edges edges = new Edges();
        TextEdges.run(edges);
        SnowEdges.run(edges);
        ClaimEdges.run(edges);
        ForecastEdges.run(edges);
        TrialEdges.run(edges);
        UndoEdges.run(edges);
        if (!edges.end()) {
            System.exit(1);
        }
    }
}
