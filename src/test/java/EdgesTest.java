import java.io.IOException;

/** Each sentence of the document has checks of its own: of the edges that it names, and of what is refused. */
public final class EdgesTest {
    private EdgesTest() {
    }

    public static void main(String[] args) throws IOException {
        Sentences sentences = new Sentences();
        new TermEdges(sentences).all();
        new CallEdges(sentences).all();
        if (sentences.end() != 0) {
            System.exit(1);
        }
    }
}
