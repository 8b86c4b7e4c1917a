import java.io.IOException;

/** For each sentence of the document that names a boundary, a test of its own. */
public final class SentencesTest {
    public static void main(String[] args) throws IOException {
        Sentences sentences = new Sentences();
        TermsSentences.all(sentences);
        ChangeSentences.all(sentences);
        ReadingSentences.all(sentences);
        SoundSentences.all(sentences);
        ScriptSentences.all(sentences);
        UndoSentences.all(sentences);
        sentences.requireAll("The public face", "Not promised");
        Check.end();
    }
}
