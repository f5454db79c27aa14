/** Every sentence of the document, with its boundary cases, in the order of the document. */
public final class SentenceTest {
    public static void main(String[] args) throws Exception {
        Sentences s = new Sentences();
        new DescriptionSentences(s).all();
        new TextSentences(s).all();
        new TreePromises(s).all();
        new TwigPromises(s).all();
        new MatchPromises(s).all();
        new TextPromises(s).all();
        new StatePromises(s).all();
        s.finish();
    }
}
