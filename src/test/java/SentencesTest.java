/** One test for each sentence of the document, from its first line on, each at its boundaries. */
public final class SentencesTest {
    public static void main(String[] args) {
        FirstSentences.all();
        RoomsSentences.all();
        YearsSentences.all();
        AsksSentences.all();
        KindsSentences.all();
        RefusedSentences.all();
        HeadSentences.all();
        Doc.everySentenceIsNamed();
        Check.end();
    }
}
