import java.io.IOException;

/** Each sentence of the document has a run of calls of its own, on the edges that it names. */
public final class EdgesTest {
    private EdgesTest() {
    }

    public static void main(String[] args) throws IOException {
        Sentences doc = new Sentences();
        new TermsEdges(doc).run();
        new CallEdges(doc).run();
        new KeptEdges(doc).run();
        doc.allAreQuoted();
        Script.end();
    }
}
