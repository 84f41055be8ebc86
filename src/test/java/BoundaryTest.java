/** Each sentence of the document, one test of its own at least for each: boundary cases, what it says plainly, and where two meet. */
public final class BoundaryTest {
    public static void main(String[] args) {
        BoundaryFace.run();
        BoundaryParameters.run();
        BoundaryPlain.run();
        BoundaryTerms.run();
        BoundaryTrips.run();
        BoundaryTexts.run();
        BoundaryInput.run();
        BoundaryFacts.run();
        BoundaryWhatIf.run();
        BoundaryChanges.run();
        BoundaryUndo.run();
        BoundaryOutput.run();
        BoundaryMeetings.run();
        Boundary.everySentenceIsTested();
        Check.end();
    }
}
