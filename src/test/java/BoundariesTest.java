/** Sentence by sentence of the document: the cases at the bounds that each one names. */
public final class BoundariesTest {
    public static void main(String[] args) {
        WordBoundaries.run();
        TaleBoundaries.run();
        HoleBoundaries.run();
        TextBoundaries.run();
        HistoryBoundaries.run();
        ToldBoundaries.run();
        ErrorBoundaries.run();
        Check.noSentence();
        Document.allIsQuoted();
        Check.end();
    }
}
