import java.io.IOException;

/** Every sentence of the document in turn, on both sides of each boundary that it names. */
public final class SentencesTest {
    public static void main(String[] args) throws IOException {
        Sentences due = new Sentences();
        ObjectSentences.test(due);
        TextSentences.test(due);
        ValueSentences.test(due);
        BodySentences.test(due);
        RuleSentences.test(due);
        PlaceSentences.test(due);
        MatcherSentences.test(due);
        ComparisonSentences.test(due);
        InteractionSentences.test(due);
        StateSentences.test(due);
        VerifySentences.test(due);
        ListingSentences.test(due);
        due.allAreTold();
        due.finish();
    }
}
