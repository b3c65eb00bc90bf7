import java.io.IOException;

/** Every sentence of the Description and of the promises, each with tests of its own. */
public final class SentencesTest {
    public static void main(String[] args) throws IOException {
        Sentences sentences = new Sentences();
        SentenceGroup[] groups = {
            new DescriptionSentences(sentences), new StrengthSentences(sentences), new CircuitSentences(sentences),
            new ValueSentences(sentences), new SteadySentences(sentences), new SimulationSentences(sentences),
            new FaultSentences(sentences), new SavingSentences(sentences)};
        for (SentenceGroup group : groups) {
            group.runAll();
        }
        sentences.finish();
    }
}
