/** Every sentence of the document that names an edge has a test of its own here, which names its promise and quotes it. */
public final class EdgesTest {
    public static void main(String[] args) {
        TermsEdges.all();
        MindEdges.all();
        LaterEdges.all();
        RefusalEdges.all();
        Edges.everyRefusal();
        Edges.everySentence();
        if (!Edges.allHeld()) {
            System.exit(1);
        }
    }
}
