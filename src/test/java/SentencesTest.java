/** Each sentence of the document that names a case has a test here, which says the sentence. */
public final class SentencesTest {
    private SentencesTest() {
    }

    public static void main(String[] args) throws Exception {
        Sentences of = new Sentences();
        new StationSentences(of).all();
        new SlotSentences(of).all();
        new CallSentences(of).all();
        new AnswerSentences(of).all();
        of.allAreTaken("What it is", "Terms", "Promise 1: A new object", "Promise 2: setStrength",
            "Promise 3: setClass", "Promise 4: setReserve", "Promise 5: tell", "Promise 6: frame", "Promise 7: pass",
            "Promise 8: now", "Promise 9: sends", "Promise 10: waitOf", "Promise 11: window", "Promise 12: failures",
            "Promise 13: silencedTo", "Promise 14: frames", "Promise 15: partsLeft", "Promise 16: delivered",
            "Promise 17: dropped", "Promise 18: airtime", "Promise 19: airtimeBySendings", "Promise 20: numbers");
        of.close("SentencesTest");
    }
}
