/** Promises 1 to 7: a test for each clause of theirs. */
final class SetupBoundaries {
    private static final int MAX = Integer.MAX_VALUE;
    private static final int MIN = Integer.MIN_VALUE;
    /** No domains of three; 32 and 33 are 0 and 1 to one who shifts bits by them. */
    private static final int[] NO_DOMAINS = {MIN, -32, -1, 3, 4, 6, 32, 33, MAX};

    private SetupBoundaries() {
    }

    static void all() {
        newObject();
        flow();
        channel();
        code();
        onFail();
        slot();
        seal();
    }

    private static void newObject() {
        Sentence.of("Promise 1", "Domains are as many as told");
        for (int n = 2; n <= 6; n++) {
            dueDomains(n, n);
        }
        Sentence.of("Promise 1", "but 2 when these are less");
        dueDomains(1, 2);
        dueDomains(0, 2);
        dueDomains(-1, 2);
        dueDomains(MIN, 2);
        Sentence.of("Promise 1", "and 6 when they are more.");
        dueDomains(7, 6);
        dueDomains(8, 6);
        dueDomains(MAX, 6);
        flowsToItselfAlone();
        nothingTold();
        failsForGood();
        nothingSealed();
    }

    private static void dueDomains(int told, int due) {
        SplitKernel x = new SplitKernel(told);
        Check.due("told(8) of " + told, x.told(8), due);
        for (int d = 0; d < due; d++) {
            Check.due("state of " + d, x.of(d, 1), 0);
            Check.due("code(" + d + ")", x.code(d, 0), 1);
        }
        Check.due("state of " + due, x.of(due, 1), -1);
        Check.due("code(" + due + ")", x.code(due, 0), -1);
    }

    private static void flowsToItselfAlone() {
        Sentence.of("Promise 1", "The policy lets each flow to itself alone");
        for (int n = 2; n <= 6; n++) {
            SplitKernel x = new SplitKernel(n);
            for (int a = 0; a < n; a++) {
                for (int b = 0; b < n; b++) {
                    Check.due("channel(" + a + ", " + b + ") of " + n, x.channel(a, b, false, 1), -1);
                }
                Check.due(a + " of " + n + " reigns", x.of(a, 7), 0);
                Check.program(x, a, Check.op(22, 0, a, 0), Check.op(22, 0, (a + 1) % n, 0));
                x.slot(0, a, 2);
            }
            x.seal();
            x.tick(2 * n);
            for (int d = 0; d < n; d++) {
                Check.due("place of " + d + ", which saw itself and failed to see another", x.of(d, 0), 1);
                Check.due("purge(" + d + ")", x.purge(d), 2);
            }
        }
    }

    private static void nothingTold() {
        Sentence.of("Promise 1", "no channels, programs, slots");
        SplitKernel x = new SplitKernel(3);
        Check.due("channels", x.told(7), 0);
        Check.due("at(0, 0)", x.at(0, 0), -1);
        Check.due("seal()", x.seal(), -1);
        x.flow(0, 1, true);
        Check.due("the first channel", x.channel(0, 1, false, 1), 0);
        for (int i = 0; i < 3; i++) {
            Check.due("the first slot of schedule " + i, x.slot(i, i, 1), 1);
        }
        x.code(1, 0);
        x.seal();
        x.tick(1);
        Check.due("fails of 0, that has no program", x.of(0, 4), 1);
        Check.due("its instruction", x.action(0, 3), 0);
    }

    private static void failsForGood() {
        Sentence.of("Promise 1", "a fail makes the state 2");
        SplitKernel x = new SplitKernel(6);
        for (int d = 0; d < 6; d++) {
            x.slot(0, d, 2);
        }
        x.seal();
        Check.due("tick(24)", x.tick(24), 6);
        for (int d = 0; d < 6; d++) {
            Check.due("state of " + d, x.of(d, 1), 2);
            Check.due("place of " + d, x.of(d, 0), 0);
        }
    }

    private static void nothingSealed() {
        Sentence.of("Promise 1", "nothing is sealed.");
        SplitKernel x = new SplitKernel(2);
        Check.due("told(9)", x.told(9), 0);
        Check.due("flow", x.flow(0, 1, true), true);
        Check.due("channel", x.channel(0, 1, true, 1), 0);
        Check.due("code", x.code(0, 0), 1);
        Check.due("onFail", x.onFail(0, 1), true);
        Check.due("slot", x.slot(0, 0, 1), 1);
        Check.due("tick(1)", x.tick(1), -1);
        Check.due("seal", x.seal(), 1);
    }

    private static void flow() {
        flowOrNot();
        Sentence.of("Promise 2", "False, and nothing is done, when there are no such domains");
        SplitKernel x = Town.planned();
        for (int d : NO_DOMAINS) {
            Check.due("flow(" + d + ", 2, true)", x.flow(d, 2, true), false);
            Check.due("flow(" + d + ", 2, false)", x.flow(d, 2, false), false);
            Check.due("flow(2, " + d + ", true)", x.flow(2, d, true), false);
            Check.due("flow(0, " + d + ", false)", x.flow(0, d, false), false);
            Check.due("flow(" + d + ", " + d + ", true)", x.flow(d, d, true), false);
        }
        Town.dueUntouched("flows of no domains", x);

        Sentence.of("Promise 2", "a is b");
        x = Town.planned();
        for (int d = 0; d < 3; d++) {
            Check.due("flow(" + d + ", itself, true)", x.flow(d, d, true), false);
            Check.due("flow(" + d + ", itself, false)", x.flow(d, d, false), false);
        }
        Town.dueUntouched("flows to itself", x);
        flowWithChannel();

        Sentence.of("Promise 2", "or the kernel is sealed.");
        x = Town.sealed();
        Check.due("flow(2, 0, true)", x.flow(2, 0, true), false);
        Check.due("flow(0, 1, true)", x.flow(0, 1, true), false);
        Check.due("flow(0, 2, false)", x.flow(0, 2, false), false);
        Town.dueUntouchedSince("flows when sealed", x);
    }

    private static void flowOrNot() {
        Sentence.of("Promise 2", "What is of domain a may flow to domain b, or not (a itself always may): true.");
        SplitKernel x = new SplitKernel(6);
        Check.due("flow(5, 0, false), which is so already", x.flow(5, 0, false), true);
        Check.due("flow(5, 0, true)", x.flow(5, 0, true), true);
        Check.due("flow(5, 0, true) again", x.flow(5, 0, true), true);
        Check.due("channel(0, 5), the other way", x.channel(0, 5, false, 1), -1);
        Check.due("flow(5, 0, false)", x.flow(5, 0, false), true);
        Check.due("channel(5, 0), not any more", x.channel(5, 0, false, 1), -1);
        Check.due("flow(5, 0, true)", x.flow(5, 0, true), true);
        Check.due("channel(5, 0)", x.channel(5, 0, false, 1), 0);
        x = new SplitKernel(2);
        x.flow(0, 1, true);
        x.flow(0, 1, false);
        Check.program(x, 0, Check.op(22, 0, 0, 0));
        x.slot(0, 0, 1);
        x.seal();
        x.tick(1);
        Check.due("fails of one that looks at itself", x.of(0, 4), 0);
    }

    private static void flowWithChannel() {
        Sentence.of("Promise 2", "a channel goes from a to b and it may no more");
        SplitKernel x = Town.planned();
        Check.due("flow(0, 1, false) beside a queue", x.flow(0, 1, false), false);
        Check.due("flow(1, 2, false) beside a board", x.flow(1, 2, false), false);
        Town.dueUntouched("flows beside channels", x);
        x = Town.planned();
        Check.due("flow(0, 1, true) beside a queue", x.flow(0, 1, true), true);
        Check.due("flow(1, 0, false), against its way", x.flow(1, 0, false), true);
        Check.due("flow(0, 2, true)", x.flow(0, 2, true), true);
        Check.due("flow(0, 2, false), its domains with others", x.flow(0, 2, false), true);
        Town.dueUntouched("flows not beside channels", x);
        x = new SplitKernel(6);
        x.flow(4, 5, true);
        x.flow(5, 4, true);
        for (int i = 0; i < 11; i++) {
            x.channel(4, 5, false, 1);
        }
        Check.due("flow(5, 4, false) before the 12th channel", x.flow(5, 4, false), true);
        x.flow(5, 4, true);
        Check.due("the 12th channel", x.channel(5, 4, false, 1), 11);
        Check.due("flow(5, 4, false) after it", x.flow(5, 4, false), false);
    }

    private static void channel() {
        Sentence.of("Promise 3", "One more channel: its number.");
        SplitKernel x = new SplitKernel(6);
        x.flow(5, 0, true);
        x.flow(0, 5, true);
        for (int i = 0; i < 12; i++) {
            Check.due("channel " + i, x.channel(5 * (i % 2), 5 - 5 * (i % 2), i < 6, i % 4 + 1), i);
            Check.due("channels", x.told(7), i + 1);
            Check.due("the next one's from", x.at(i + 1, 0), -1);
        }

        Sentence.of("Promise 3", "NONE when there are no such domains");
        x = Town.planned();
        for (int d : NO_DOMAINS) {
            Check.due("channel(" + d + ", 1)", x.channel(d, 1, false, 1), -1);
            Check.due("channel(0, " + d + ")", x.channel(0, d, true, 1), -1);
            Check.due("channel(" + d + ", itself)", x.channel(d, d, true, 1), -1);
        }
        Town.dueUntouched("channels of no domains", x);

        Sentence.of("Promise 3", "they are the same");
        x = Town.planned();
        for (int d = 0; d < 3; d++) {
            Check.due("channel(" + d + ", itself)", x.channel(d, d, d == 1, 1), -1);
        }
        Town.dueUntouched("channels to itself", x);

        Sentence.of("Promise 3", "the first may not flow to the second");
        x = Town.planned();
        Check.due("channel(1, 0), against the flow", x.channel(1, 0, false, 1), -1);
        Check.due("channel(2, 1), against the flow", x.channel(2, 1, true, 1), -1);
        Check.due("channel(0, 2), by two flows", x.channel(0, 2, false, 1), -1);
        Town.dueUntouched("channels without a flow", x);

        channelSizes();
        thirteenthChannel();
        Sentence.of("Promise 3", "or the kernel is sealed.");
        x = Town.sealed();
        Check.due("channel(0, 1)", x.channel(0, 1, false, 1), -1);
        Check.due("channel(1, 2)", x.channel(1, 2, true, 4), -1);
        Town.dueUntouchedSince("channels when sealed", x);
    }

    private static void channelSizes() {
        Sentence.of("Promise 3", "size is not 1 .. 4");
        SplitKernel x = Town.planned();
        int[] sizes = {MIN, -1, 0, 5, 6, MAX};
        for (int size : sizes) {
            Check.due("queue of size " + size, x.channel(0, 1, false, size), -1);
            Check.due("board of size " + size, x.channel(0, 1, true, size), -1);
        }
        Town.dueUntouched("channels of such sizes", x);
        x = Town.planned();
        for (int size = 1; size <= 4; size++) {
            Check.due("queue of size " + size, x.channel(0, 1, false, size), 2 * size);
            Check.due("board of size " + size, x.channel(0, 1, true, size), 2 * size + 1);
        }
    }

    private static void thirteenthChannel() {
        Sentence.of("Promise 3", "there are 12");
        SplitKernel x = Town.planned();
        for (int i = 2; i < 12; i++) {
            Check.due("channel " + i, x.channel(1, 2, i % 2 == 0, 1), i);
        }
        Check.due("a 13th queue", x.channel(0, 1, false, 1), -1);
        Check.due("a 13th board", x.channel(1, 2, true, 1), -1);
        Check.due("channels", x.told(7), 12);
        Check.due("channel 12", x.at(12, 0), -1);
        Check.due("size of channel 11", x.at(11, 3), 1);
    }

    private static void code() {
        Sentence.of("Promise 4", "One more instruction of a domain's program: how many it has.");
        SplitKernel x = new SplitKernel(6);
        for (int i = 1; i <= 3; i++) {
            Check.due("code(0)", x.code(0, MIN), i);
            Check.due("code(5)", x.code(5, MAX), i);
        }

        Sentence.of("Promise 4", "NONE when there is no such domain");
        x = Town.planned();
        for (int d : NO_DOMAINS) {
            Check.due("code(" + d + ")", x.code(d, 0), -1);
        }
        Town.dueUntouched("code of no domain", x);

        Sentence.of("Promise 4", "it has 64");
        x = new SplitKernel(2);
        for (int i = 1; i <= 64; i++) {
            Check.due("code " + i, x.code(1, Check.set(0, i)), i);
        }
        Check.due("a 65th", x.code(1, Check.set(0, 65)), -1);
        Check.due("a 65th again", x.code(1, 0), -1);
        Check.due("the other's first", x.code(0, 0), 1);
        x.slot(0, 1, 20);
        x.seal();
        x.tick(65);
        Check.due("register by the 64th", x.register(1, 0), 64);
        Check.due("instruction of the 64th step", x.action(63, 3), Check.set(0, 64));
        Check.due("instruction of the 65th step", x.action(64, 3), 0);
        Check.due("state after the 65th step", x.of(1, 1), 2);

        Sentence.of("Promise 4", "or the kernel is sealed.");
        x = new SplitKernel(2);
        x.code(0, Check.set(0, 7));
        x.slot(0, 0, 2);
        x.seal();
        Check.due("code(0)", x.code(0, Check.set(0, 8)), -1);
        Check.due("code(1)", x.code(1, 0), -1);
        x.tick(2);
        Check.due("register", x.register(0, 0), 7);
        Check.due("fails behind the program", x.of(0, 4), 1);
    }

    /** How a domain fails that was told so and so: place, state and register 0 after a step that failed. */
    private static void dueFail(String told, SplitKernel x, int domain, int how) {
        Check.program(x, domain, Check.set(0, 9), Check.op(255, 0, 0, 0));
        x.slot(0, domain, 2);
        x.seal();
        dueFailed(told, x, domain, how);
    }

    private static void dueFailed(String told, SplitKernel x, int domain, int how) {
        x.tick(2);
        Check.due("place after " + told, x.of(domain, 0), how == 0 ? 1 : how == 1 ? 0 : 2);
        Check.due("state after " + told, x.of(domain, 1), how == 0 ? 2 : 0);
        Check.due("register after " + told, x.register(domain, 0), how == 1 ? 0 : 9);
    }

    private static void onFail() {
        Sentence.of("Promise 5", "What a fail does to a domain, 0 .. 2: true");
        for (int how = 0; how <= 2; how++) {
            for (int before = 0; before <= 2; before++) {
                SplitKernel x = new SplitKernel(6);
                Check.due("onFail(5, " + before + ")", x.onFail(5, before), true);
                Check.due("onFail(5, " + how + ")", x.onFail(5, how), true);
                dueFail("onFail(5, " + how + ")", x, 5, how);
            }
        }
        Sentence.of("Promise 5", "false for other numbers");
        int[] others = {MIN, -1, 3, 4, MAX};
        for (int how = 0; how <= 2; how++) {
            SplitKernel x = new SplitKernel(2);
            x.onFail(0, how);
            for (int other : others) {
                Check.due("onFail(0, " + other + ")", x.onFail(0, other), false);
            }
            dueFail("onFail(0, " + how + ")", x, 0, how);
        }
        Sentence.of("Promise 5", "no such domain");
        SplitKernel x = Town.planned();
        for (int d : NO_DOMAINS) {
            Check.due("onFail(" + d + ", 1)", x.onFail(d, 1), false);
        }
        Town.dueUntouched("onFail of no domain", x);

        Sentence.of("Promise 5", "or when the kernel is sealed.");
        x = new SplitKernel(2);
        Check.program(x, 0, Check.set(0, 9), Check.op(255, 0, 0, 0));
        x.slot(0, 0, 2);
        x.seal();
        Check.due("onFail(0, 1)", x.onFail(0, 1), false);
        Check.due("onFail(0, 2)", x.onFail(0, 2), false);
        Check.due("onFail(0, 0)", x.onFail(0, 0), false);
        dueFailed("being sealed", x, 0, 0);
    }

    private static void slot() {
        Sentence.of("Promise 6", "One more slot of a schedule: how many it has.");
        SplitKernel x = new SplitKernel(6);
        for (int i = 1; i <= 12; i++) {
            for (int schedule = 0; schedule < 3; schedule++) {
                Check.due("slot " + i + " of " + schedule, x.slot(schedule, 5, 20), i);
            }
        }

        Sentence.of("Promise 6", "NONE when there is no such schedule or domain");
        x = Town.planned();
        int[] noSchedules = {MIN, -1, 3, 4, MAX};
        for (int schedule : noSchedules) {
            Check.due("slot(" + schedule + ", 0, 1)", x.slot(schedule, 0, 1), -1);
        }
        for (int d : NO_DOMAINS) {
            Check.due("slot(1, " + d + ", 1)", x.slot(1, d, 1), -1);
            Check.due("slot(0, " + d + ", 1)", x.slot(0, d, 1), -1);
        }
        Town.dueUntouched("slots of no schedule or domain", x);

        slotTicks();
        thirteenthSlot();
        Sentence.of("Promise 6", "or the kernel is sealed.");
        x = Town.sealed();
        for (int schedule = 0; schedule < 3; schedule++) {
            Check.due("slot(" + schedule + ", 0, 1)", x.slot(schedule, 0, 1), -1);
        }
        Town.dueUntouchedSince("slots when sealed", x);
    }

    private static void slotTicks() {
        Sentence.of("Promise 6", "ticks are not 1 .. 20");
        SplitKernel x = Town.planned();
        int[] others = {MIN, -1, 0, 21, 22, MAX};
        for (int ticks : others) {
            Check.due("slot(0, 0, " + ticks + ")", x.slot(0, 0, ticks), -1);
        }
        Town.dueUntouched("slots of such ticks", x);
        x = new SplitKernel(2);
        Check.due("slot(0, 0, 1)", x.slot(0, 0, 1), 1);
        Check.due("slot(0, 1, 20)", x.slot(0, 1, 20), 2);
        x.seal();
        x.tick(21);
        Check.due("ticks of 0", x.of(0, 6), 1);
        Check.due("ticks of 1", x.of(1, 6), 20);
        Check.due("whose slot is next", x.told(2), 0);
    }

    private static void thirteenthSlot() {
        Sentence.of("Promise 6", "it has 12");
        for (int schedule = 0; schedule < 3; schedule++) {
            SplitKernel x = new SplitKernel(2);
            for (int i = 1; i <= 12; i++) {
                Check.due("slot " + i, x.slot(schedule, 0, 1), i);
            }
            Check.due("a 13th", x.slot(schedule, 1, 1), -1);
            Check.due("the first of another", x.slot((schedule + 1) % 3, 0, 1), 1);
            x.seal();
            x.tick(13);
            Check.due("ticks of 1, that has the 13th alone", x.of(1, 6), 0);
        }
    }

    private static void seal() {
        Sentence.of("Promise 7", "The kernel is sealed: 1.");
        SplitKernel x = new SplitKernel(2);
        x.slot(0, 1, 1);
        Check.due("seal()", x.seal(), 1);
        Check.due("told(9)", x.told(9), 1);
        Check.due("tick(1)", x.tick(1), 1);

        Sentence.of("Promise 7", "NONE when it is already");
        x = Town.sealed();
        Check.due("seal() at once", x.seal(), -1);
        Town.dueUntouchedSince("seal() at once", x);
        x = Town.sealed();
        x.tick(5);
        Check.due("seal() after ticks", x.seal(), -1);
        Check.due("time", x.told(0), 5);
        Check.due("whose slot is next", x.told(2), 2);
        Check.due("ticks left", x.told(5), 4);
        Check.due("sealed", x.told(9), 1);

        Sentence.of("Promise 7", "or schedule 0 has no slots.");
        x = new SplitKernel(2);
        Check.due("seal() without any", x.seal(), -1);
        x.slot(1, 0, 1);
        x.slot(2, 0, 1);
        Check.due("seal() with slots in 1 and 2", x.seal(), -1);
        Check.due("sealed", x.told(9), 0);
        Check.due("whose slot is next", x.told(2), -1);
        Check.due("tick(1)", x.tick(1), -1);
        Check.due("input(0, 1)", x.input(0, 1), -1);
        Check.due("code(0)", x.code(0, 0), 1);
        Check.due("slot(0, 1, 1)", x.slot(0, 1, 1), 1);
        Check.due("seal() with one in 0", x.seal(), 1);
    }
}
