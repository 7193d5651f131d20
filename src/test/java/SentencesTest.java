import java.io.IOException;

/** Every sentence of the document by a test of its own, which quotes it; and that none is left out. */
public final class SentencesTest {
    private SentencesTest() {
    }

    public static void main(String[] args) throws IOException {
        Document document = new Document();
        Sentences[] groups = {new TermSentences(document), new LawSentences(document), new FormSentences(document),
            new AnsweringSentences(document), new RefusalSentences(document), new PromiseSentences(document),
            new AskingSentences(document)};
        int wrong = 0;
        int tests = 0;
        for (Sentences group : groups) {
            group.all();
            wrong += group.wrong();
            tests += group.tests();
        }
        wrong += document.unquoted();
        System.out.println(wrong == 0 ? tests + " tests of sentences hold" : wrong + " wrong in tests of sentences");
        System.exit(wrong == 0 ? 0 : 1);
    }
}
