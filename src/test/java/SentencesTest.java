/** Each sentence of the document that names a boundary case has a test of its own. */
public final class SentencesTest {
    public static void main(String[] args) {
        SentencesOfWater.all();
        SentencesOfTurns.all();
        SentencesOfTexts.all();
        SentencesOfChanges.all();
        SentencesOfBuilding.all();
        SentencesOfHours.all();
        SentencesOfAnswers.all();
        DocumentSentences.check();
        Due.end();
    }
}
