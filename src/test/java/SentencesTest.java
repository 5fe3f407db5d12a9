/** One test for each sentence of the document's terms and promises, each at its boundaries. */
public final class SentencesTest {
    public static void main(String[] args) {
        RoomsSentences.all();
        YearsSentences.all();
        AsksSentences.all();
        KindsSentences.all();
        RefusedSentences.all();
        HeadSentences.all();
        Doc.everySentenceIsNamed();
        Check.end();
    }
}
