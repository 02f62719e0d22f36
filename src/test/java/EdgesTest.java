import java.io.IOException;

/**
 * Each sentence of the document that names a boundary case (too small, too large, empty, full, a wrap-around, a refused
 * call) with the answers that are due by it. The sentences are told in the document's own words, and looked up in it.
 */
public final class EdgesTest {
    private static final int LAST_PROMISE = 39;

    public static void main(String[] args) throws IOException {
        Due due = new Due("EdgesTest");
        new TextEdges(due).go();
        new AnswerEdges(due).go();
        new ActEdges(due).go();
        due.quotesStand(LAST_PROMISE);
        due.close();
    }
}
