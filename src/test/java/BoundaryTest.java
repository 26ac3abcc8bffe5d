/** Each clause of the document has a test of its own that names it; no clause of a promise or a term is left out. */
public final class BoundaryTest {
    public static void main(String[] args) {
        WholeBoundaries.all();
        SetupBoundaries.all();
        RunBoundaries.all();
        LookBoundaries.all();
        TermBoundaries.all();
        InstructionBoundaries.all();
        FailBoundaries.all();
        PurgeBoundaries.all();
        UndisturbedBoundaries.all();
        Sentence.dueAllNamed();
        Check.end();
    }
}
