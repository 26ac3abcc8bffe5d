/** Each clause of the document has a test of its own that names it; no clause of a promise or a term is left out. */
public final class BoundaryTest {
    public static void main(String[] args) {
        dueWithoutThrow(WholeBoundaries::all);
        dueWithoutThrow(SetupBoundaries::all);
        dueWithoutThrow(RunBoundaries::all);
        dueWithoutThrow(LookBoundaries::all);
        dueWithoutThrow(TermBoundaries::all);
        dueWithoutThrow(InstructionBoundaries::all);
        dueWithoutThrow(FailBoundaries::all);
        dueWithoutThrow(PurgeBoundaries::all);
        dueWithoutThrow(UndisturbedBoundaries::all);
        Sentence.dueAllNamed();
        Check.end();
    }

    /** What a call throws is told with the clause at which it was thrown. */
    private static void dueWithoutThrow(Runnable tests) {
        try {
            tests.run();
        } catch (RuntimeException e) {
            Check.due("a call that threw " + e, true, false);
        }
    }
}
