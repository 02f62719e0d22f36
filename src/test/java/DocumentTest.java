import java.io.IOException;

/**
 * The document sentence by sentence, from its terms to its last promise: each is told in its own words, which are looked
 * up there, with the answers that are due by it. No words of a term or a promise go without.
 */
public final class DocumentTest {
    private static final int LAST_PROMISE = 39;

    public static void main(String[] args) throws IOException {
        Due due = new Due("DocumentTest");
        new TextEdges(due).go();
        new AnswerEdges(due).go();
        new ActEdges(due).go();
        new PlainSentences(due).go();
        due.quotesStand(LAST_PROMISE);
        due.quotesCover();
        due.close();
    }
}
