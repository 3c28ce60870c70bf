import java.io.IOException;

/** Each sentence of the document's terms and promises has a test of its own, which quotes it. */
public final class SentencesTest {
    public static void main(String[] args) throws IOException {
        Doc doc = new Doc();
        TableSentences.run(doc);
        AskerSentences.run(doc);
        AnswerSentences.run(doc);
        TextSentences.run(doc);
        UndoSentences.run(doc);
        ChangeSentences.run(doc);
        LookSentences.run(doc);
        WouldBeSentences.run(doc);
        doc.end();
        Expect.end();
    }
}
