import java.io.IOException;

/**
 * Every sentence of the document has a test of its own, which names its part and quotes it. A wrong
 * answer is printed behind the sentence that it breaks; a sentence without a test is a fault too.
 */
public final class SentencesTest {
    public static void main(String[] args) throws IOException {
        Due due = new Due("SentencesTest");
        Sentences sentences = new Sentences(due);
        new StateSentences(sentences).look();
        new GraphSentences(sentences).look();
        new TextSentences(sentences).look();
        new RunSentences(sentences).look();
        new ChangeSentences(sentences).look();
        new QuestionSentences(sentences).look();
        sentences.noneIsLeft();
        due.close();
    }
}
