/** Each sentence of the document, its edges above all, has a test of its own that quotes it. */
public final class EdgesTest {
    public static void main(String[] args) {
        EdgesOfSky.hold();
        EdgesOfMinutes.hold();
        EdgesOfSetups.hold();
        EdgesOfExceptions.hold();
        EdgesOfRules.hold();
        EdgesOfPredictions.hold();
        EdgesOfRecords.hold();
        EdgesOfContacts.hold();
        EdgesOfFigures.hold();
        EdgesOfTexts.hold();
        Edges.everythingIsQuoted();
        Check.end();
    }
}
