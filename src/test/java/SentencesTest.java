import java.io.IOException;
import java.nio.file.Path;

/** The document sentence by sentence: each that names a boundary case is quoted and asked about. */
public final class SentencesTest {
    public static void main(String[] args) throws IOException {
        Sentences on = Sentences.of(Path.of(System.getProperty("document", "../shared/DOC.md")));
        new TextSentences(on).all();
        new SlideSentences(on).all();
        new ActSentences(on).all();
        new BestSentences(on).all();
        new SeenSentences(on).all();
        new ChanceSentences(on).all();
        new KeptSentences(on).all();
        new AnswerSentences(on).all();
        on.close("SentencesTest");
    }
}
