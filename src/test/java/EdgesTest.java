import java.io.IOException;

/** Each sentence of the document that names a boundary case, quoted, with the test that it has of its own. */
public final class EdgesTest {
    public static void main(String[] args) throws IOException {
        Sentences s = new Sentences();
        new TermsEdges(s).run();
        new PromiseEdges(s).run();
        s.end();
    }
}
