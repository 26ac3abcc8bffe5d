/** What the tests share: counting wrong answers, writing instructions, making kernels. */
final class Check {
    private static int wrong = 0;

    private Check() {
    }

    static void due(String call, long got, long want) {
        if (got != want) {
            wrong++;
            System.out.println(call + " answered " + got + ", due is " + want);
        }
    }

    static void due(String call, boolean got, boolean want) {
        due(call, got ? 1 : 0, want ? 1 : 0);
    }

    /** Ends the test: with exit code 1 if an answer was wrong. */
    static void end() {
        System.out.println(wrong == 0 ? "all answers are as due" : wrong + " answers are not as due");
        if (wrong != 0) {
            System.exit(1);
        }
    }

    static int op(int operation, int a, int b, int c) {
        return operation | a << 8 | b << 16 | c << 24;
    }

    /** Register a becomes v. */
    static int set(int a, int v) {
        return 1 | a << 8 | (v & 0xFFFF) << 16;
    }

    static void program(SplitKernel x, int domain, int... instructions) {
        for (int instruction : instructions) {
            x.code(domain, instruction);
        }
    }

    /** Two domains, of which the first alone has a program and all the slots; sealed. */
    static SplitKernel alone(int... instructions) {
        return aloneOnFail(0, instructions);
    }

    static SplitKernel aloneOnFail(int how, int... instructions) {
        SplitKernel x = new SplitKernel(2);
        program(x, 0, instructions);
        x.onFail(0, how);
        x.slot(0, 0, 20);
        x.seal();
        return x;
    }
}
