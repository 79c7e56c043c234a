/** Every sentence of the document has a test of its own, whose messages say which promise and which sentence it holds. */
public final class SentenceTest {
    private SentenceTest() {
    }

    public static void main(String[] args) throws Exception {
        Sentences sentences = new Sentences();
        VectorSentences.hold(sentences);
        TextSentences.hold(sentences);
        InputSentences.hold(sentences);
        VersionSentences.hold(sentences);
        NodeSentences.hold(sentences);
        CompareSentences.hold(sentences);
        ChangeTermSentences.hold(sentences);
        ChangeSentences.hold(sentences);
        sentences.expectAllHeld();
        Expect.finish("SentenceTest");
    }
}
