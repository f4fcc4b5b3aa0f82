/**
 * Sentence by sentence: each one of the document that names a boundary has rows of its own,
 * and no word of a term or promise goes without being quoted.
 */
public final class BoundaryTests {
    public static void main(String[] args) throws Exception {
        Check check = new Check();
        Document document = new Document();
        check.about("the document");
        check.due("its sections: what it is, seven terms, 74 promises", document.size(), 1 + 7 + 74);
        new TextBoundaries(document, check).run();
        new HouseBoundaries(document, check).run();
        new AnswerBoundaries(document, check).run();
        new ToldBoundaries(document, check).run();
        new KinBoundaries(document, check).run();
        new TaleBoundaries(document, check).run();
        new SlotBoundaries(document, check).run();
        check.about("the document");
        for (String words : document.unquoted()) {
            check.isTrue("has a sentence without a test: " + words, false);
        }
        check.finish("BoundaryTests");
    }
}
