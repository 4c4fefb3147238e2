/** Each sentence of the document that names an edge; TESTS.md tells which is held where. */
public final class EdgesTest {
    public static void main(String[] args) {
        RowEdges.run();
        TextEdges.run();
        StepEdges.run();
        ProofEdges.run();
        LookEdges.run();
        AskEdges.run();
        Edge.everyPromiseHasEdges();
        Due.end("EdgesTest");
    }
}
