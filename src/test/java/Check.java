/** What the tests share: counting wrong answers, writing instructions, making kernels. */
final class Check {
    private static int wrong = 0;
    private static String about = "";

    private Check() {
    }

    /** What the checks from here on are about; a wrong answer is printed with it. */
    static void about(String words) {
        about = words + ": ";
    }

    static void due(String call, long got, long want) {
        if (got != want) {
            wrong++;
            System.out.println(about + call + " answered " + got + ", due is " + want);
        }
    }

    static void due(String call, boolean got, boolean want) {
        due(call, got ? 1 : 0, want ? 1 : 0);
    }

    /** Ends the test: with exit code 1 if an answer was wrong. */
    static void end() {
        System.out.println(wrong == 0 ? "all answers are as due" : wrong + " answers are not as due");
        if (wrong != 0) {
            System.exit(1);
        }
    }

    static int op(int operation, int a, int b, int c) {
        return operation | a << 8 | b << 16 | c << 24;
    }

    /** Register a becomes v. */
    static int set(int a, int v) {
        return 1 | a << 8 | (v & 0xFFFF) << 16;
    }

    static void program(SplitKernel x, int domain, int... instructions) {
        for (int instruction : instructions) {
            x.code(domain, instruction);
        }
    }

    /** Two domains, of which the first alone has a program and all the slots; sealed. */
    static SplitKernel alone(int... instructions) {
        return aloneOnFail(0, instructions);
    }

    static SplitKernel aloneOnFail(int how, int... instructions) {
        SplitKernel x = new SplitKernel(2);
        program(x, 0, instructions);
        x.onFail(0, how);
        x.slot(0, 0, 20);
        x.seal();
        return x;
    }

    /** Domain 0 may flow to domain 1 by the channel 0; nothing fails for good; no programs, no slots, not sealed. */
    static SplitKernel pair(boolean board, int size) {
        SplitKernel x = new SplitKernel(2);
        x.flow(0, 1, true);
        x.channel(0, 1, board, size);
        x.onFail(0, 2);
        x.onFail(1, 2);
        return x;
    }
}
