/** Holds the class to the document, sentence by sentence: each test quotes the words it is for. */
public final class DocumentTest {

    private DocumentTest() {
    }

    public static void main(String[] args) {
        Sentences s = new Sentences("DocumentTest");
        new MemorySentences(s).all();
        new LongSentences(s).all();
        new ShortSentences(s).all();
        new StepSentences(s).all();
        new StateSentences(s).all();
        new CallSentences(s).all();
        new RunSentences(s).all();
        s.end();
    }
}
