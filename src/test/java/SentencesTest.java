import java.io.IOException;

/** Each sentence of the document, from its first line on, has a test of its own, which quotes it. */
public final class SentencesTest {
    public static void main(String[] args) throws IOException {
        Doc doc = new Doc();
        FaceSentences.run(doc);
        TableSentences.run(doc);
        AskerSentences.run(doc);
        AnswerSentences.run(doc);
        TextSentences.run(doc);
        UndoSentences.run(doc);
        ChangeSentences.run(doc);
        LookSentences.run(doc);
        WouldBeSentences.run(doc);
        doc.end();
        Expect.end();
    }
}
