/** Each sentence of the document that names a case has a test here, which says the sentence. */
public final class SentencesTest {
    private SentencesTest() {
    }

    public static void main(String[] args) throws Exception {
        Sentences of = new Sentences();
        new StationSentences(of).all();
        new SlotSentences(of).all();
        new CallSentences(of).all();
        new AnswerSentences(of).all();
        of.allAreTaken();
        of.close("SentencesTest");
    }
}
