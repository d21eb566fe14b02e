import java.nio.file.Path;

/**
 * Each sentence of the document's terms and promises by itself: what it allows last and refuses
 * first, none and as many as there may be, each refusal, two at once, and that the refused changes
 * nothing. A failure names the promise and quotes the sentence; words of the document that no test
 * quotes are failures, too.
 */
public final class SentencesTest {
    public static void main(String[] args) throws Exception {
        Sentences s = new Sentences(new Doc(Path.of(args[1])));
        TermsSentences.tryAll(s);
        RowsSentences.tryAll(s);
        TextsSentences.tryAll(s);
        WordsSentences.tryAll(s);
        DeedsSentences.tryAll(s);
        StepsSentences.tryAll(s);
        PlacingsSentences.tryAll(s);
        LiesSentences.tryAll(s);
        ChancesSentences.tryAll(s);
        ToldSentences.tryAll(s);
        s.end();
    }
}
