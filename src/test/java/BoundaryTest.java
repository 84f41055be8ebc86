/** Issue 7: each sentence of the document that names a boundary case, one test of its own for each. */
public final class BoundaryTest {
    public static void main(String[] args) {
        BoundaryTerms.run();
        BoundaryTrips.run();
        BoundaryTexts.run();
        BoundaryInput.run();
        BoundaryFacts.run();
        BoundaryWhatIf.run();
        BoundaryChanges.run();
        BoundaryUndo.run();
        BoundaryOutput.run();
        Boundary.everyPartIsTested();
        Check.end();
    }
}
