/**
 * The edges of promises 1 to 19 and of the terms: each sentence of the document has a test of its own, with the
 * sentence written in it.
 */
public final class EdgesTest {
    public static void main(String[] args) {
        ReadingEdges.all();
        PhraseEdges.all();
        RuleEdges.all();
        ShapeEdges.all();
        ApartEdges.all();
        Document.isQuotedWhole(Check.endQuotes());
        Check.end();
    }
}
