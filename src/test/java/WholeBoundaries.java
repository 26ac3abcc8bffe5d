/** What the document says of a kernel as a whole: a test for each clause. */
final class WholeBoundaries {
    private WholeBoundaries() {
    }

    static void all() {
        apart();
        lastCall();
    }

    /** Domain 0 looks for a way to domain 1 by everything that the policy rules; domain 2 is let know, by each way. */
    private static void apart() {
        Sentence.of("What it is", "A kernel that keeps domains apart on one processor: each has its own memory and a program, "
                + "runs in the slots of a fixed schedule, and learns of others only what a policy lets flow: "
                + "by messages that wait for its next slot, by boards, by looking at memory.");
        SplitKernel x = new SplitKernel(3);
        x.flow(0, 2, true);
        x.channel(0, 2, false, 1);
        x.channel(0, 2, true, 1);
        Check.program(x, 0, Check.set(1, 1), Check.set(2, 77), Check.op(13, 2, 0, 0), Check.op(14, 0, 0, 1), Check.op(16, 1, 0, 0),
                Check.op(0, 0, 0, 0));
        for (int d = 1; d < 3; d++) {
            x.onFail(d, 2);
            Check.program(x, d, Check.op(15, 0, 0, 0), Check.op(12, 1, 0, 0), Check.set(6, 1), Check.op(17, 1, 6, 0), Check.op(12, 2, 6, 0),
                    Check.op(22, 3, 0, 0), Check.op(0, 0, 0, 0));
        }
        for (int d = 0; d < 3; d++) {
            x.slot(0, d, 7);
        }
        x.seal();
        x.tick(21);
        for (int k = 1; k <= 3; k++) {
            Check.due("what 1 knows by way " + k, x.register(1, k), 0);
            Check.due("what 2 knows by way " + k, x.register(2, k), 77);
        }
        Check.due("ways of 1 that failed", x.of(1, 4), 3);
        Check.due("ways of 2 that failed", x.of(2, 4), 0);
    }

    private static void lastCall() {
        Sentence.of("What it is", "An object is used for at most 512 calls after it has been made; what later calls answer is free.");
        SplitKernel x = new SplitKernel(6);
        x.code(5, Check.op(20, 1, 0, 0));
        x.code(5, Check.op(9, 0, 0, 0));
        x.slot(0, 5, 20);
        x.seal();
        for (int call = 5; call < 20; call++) {
            Check.due("tick(200) as call " + call, x.tick(200), 200);
        }
        for (int call = 20; call < 511; call++) {
            Check.due("call " + call, call % 2 == 0 ? x.undisturbed(5) : x.purge(5), call % 2 == 0 ? 1 : 3000);
        }
        Check.due("call 511", x.register(5, 1), 2998);
        Check.due("call 512", x.purged(5, 0, 1), 2998);
    }
}
