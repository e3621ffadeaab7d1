import java.io.IOException;

/** Each sentence of the document that names an edge has a test of its own, and none is left out. */
final class EdgesTest {
    private EdgesTest() {
    }

    public static void main(String[] args) throws IOException {
        Edge.readDocument();
        TermEdges.all();
        AnswerEdges.all();
        PlainEdges.all();
        SayingEdges.all();
        LaterEdges.all();
        RouteEdges.all();
        HeardEdges.all();
        WaitEdges.all();
        KeptEdges.all();
        Edge.allIsTested();
        Due.end("edges that the document names");
    }
}
