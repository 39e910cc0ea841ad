/**
 * The document from its first line on: first every sentence that names a boundary (too small, too large, empty, full,
 * wrapped around or refused), then what is left of it; words that no test quotes fail.
 */
public final class DocumentTest {
    public static void main(String[] args) {
        EdgesBuilding.all();
        EdgesGoing.all();
        EdgesWorks.all();
        EdgesHouse.all();
        SentencesTerms.all();
        SentencesMovement.all();
        SentencesHouse.all();
        Edge.end();
    }
}
