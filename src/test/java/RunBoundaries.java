/** Promises 8 and 9: a test for each clause of theirs. */
final class RunBoundaries {
    private static final int MAX = Integer.MAX_VALUE;
    private static final int MIN = Integer.MIN_VALUE;
    private static final int[] NO_DOMAINS = {MIN, -1, 3, 6, 32, MAX};

    private RunBoundaries() {
    }

    static void all() {
        howManyWait();
        inputOfNoDomain();
        eightWait();
        inputAfterLastAction();
        inputNotSealed();
        ticks();
        stepsMade();
        lastAction();
        idleTicksPass();
        tickNotBegun();
        otherTicks();
        tickNotSealed();
    }

    /** Domain 0 goes round for ever, in slots of 10 ticks; domain 1 has stopped after its first step, in slots of 5. */
    private static SplitKernel goingRound() {
        SplitKernel x = new SplitKernel(2);
        Check.program(x, 0, Check.op(9, 0, 0, 0));
        Check.program(x, 1, Check.op(0, 0, 0, 0));
        x.slot(0, 1, 5);
        x.slot(0, 0, 10);
        x.seal();
        return x;
    }

    /** Ticks till there are so many actions. */
    private static void fill(SplitKernel x, int actions) {
        for (int i = 0; i < 100 && x.told(1) < actions; i++) {
            x.tick(Math.min(200, actions - x.told(1)));
        }
    }

    private static void howManyWait() {
        Sentence.of("Promise 8", "An input for a domain: how many wait then.");
        SplitKernel x = Check.alone(Check.op(19, 0, 0, 0));
        Check.due("input(0, MIN)", x.input(0, MIN), 1);
        Check.due("input(0, MAX)", x.input(0, MAX), 2);
        Check.due("input(1, 0)", x.input(1, 0), 1);
        x.tick(1);
        Check.due("the first input", x.register(0, 0), MIN);
        Check.due("input(0, 0) when one was taken", x.input(0, 0), 2);
        Check.due("inputs of 1", x.of(1, 2), 1);
        Check.due("actions", x.told(1), 5);
    }

    private static void inputOfNoDomain() {
        Sentence.of("Promise 8", "NONE when there is no such domain");
        SplitKernel x = Town.sealed();
        for (int d : NO_DOMAINS) {
            Check.due("input(" + d + ", 1)", x.input(d, 1), -1);
        }
        Town.dueUntouchedSince("inputs of no domain", x);
    }

    private static void eightWait() {
        Sentence.of("Promise 8", "8 wait");
        SplitKernel x = Check.alone(Check.op(19, 0, 0, 0), Check.op(18, 0, 0, 0), Check.op(9, 0, 0, 0));
        for (int i = 1; i <= 8; i++) {
            Check.due("input " + i, x.input(0, 10 * i), i);
        }
        Check.due("a 9th", x.input(0, 90), -1);
        Check.due("a 9th again", x.input(0, 90), -1);
        Check.due("inputs that wait", x.of(0, 2), 8);
        Check.due("actions", x.told(1), 8);
        Check.due("the other's first", x.input(1, 1), 1);
        x.tick(1);
        Check.due("an input when one was taken", x.input(0, 100), 8);
        Check.due("one more then", x.input(0, 110), -1);
        x.tick(26);
        int[] outputs = {10, 20, 30, 40, 50, 60, 70, 80, 100};
        for (int i = 0; i < outputs.length; i++) {
            Check.due("output " + i, x.output(0, i), outputs[i]);
        }
        Check.due("inputs that wait", x.of(0, 2), 0);
        Check.due("an input when all were taken", x.input(0, 120), 1);
    }

    private static void inputAfterLastAction() {
        Sentence.of("Promise 8", "there were 3000 actions");
        SplitKernel x = goingRound();
        fill(x, 2999);
        Check.due("the 3000th action", x.input(1, 7), 1);
        Check.due("one more", x.input(1, 7), -1);
        Check.due("one more for the other", x.input(0, 7), -1);
        Check.due("actions", x.told(1), 3000);
        Check.due("inputs of 0", x.of(0, 2), 0);
        Check.due("inputs of 1", x.of(1, 2), 1);
        Check.due("the last action is an input", x.action(2999, 1), 1);
        Check.due("the one behind it", x.action(3000, 1), 0);
    }

    private static void inputNotSealed() {
        Sentence.of("Promise 8", "or the kernel is not sealed.");
        SplitKernel x = Town.planned();
        for (int d = 0; d < 3; d++) {
            Check.due("input(" + d + ", 1)", x.input(d, 1), -1);
            Check.due("inputs of " + d, x.of(d, 2), 0);
        }
        Check.due("actions", x.told(1), 0);
        Town.dueUntouched("inputs before sealing", x);
    }

    private static void ticks() {
        Sentence.of("Promise 9", "So many ticks, 1 .. 200");
        SplitKernel x = goingRound();
        Check.due("tick(1)", x.tick(1), 1);
        Check.due("time", x.told(0), 1);
        Check.due("tick(200)", x.tick(200), 131);
        Check.due("time", x.told(0), 201);
        Check.due("tick(199)", x.tick(199), 134);
        Check.due("time", x.told(0), 400);
        Check.due("ticks of 0", x.of(0, 6), 265);
        Check.due("ticks of 1", x.of(1, 6), 135);
    }

    private static void stepsMade() {
        Sentence.of("Promise 9", "how many steps were made");
        SplitKernel x = goingRound();
        Check.due("tick(1), a step of 1", x.tick(1), 1);
        Check.due("tick(1), 1 has stopped", x.tick(1), 0);
        Check.due("tick(5), two steps of 0", x.tick(5), 2);
        x.input(0, 1);
        Check.due("tick(8), an input is none", x.tick(8), 8);
        Check.due("tick(5), 1 has stopped", x.tick(5), 0);
        Check.due("actions", x.told(1), 12);
        x = Check.aloneOnFail(2);
        Check.due("steps that fail are steps", x.tick(200), 200);
        Check.due("fails", x.of(0, 4), 200);
    }

    private static void lastAction() {
        Sentence.of("Promise 9", "it ends before a step that would be the 3001st action");
        SplitKernel x = goingRound();
        fill(x, 2999);
        Check.due("tick(200), one step is left", x.tick(200), 1);
        Check.due("actions", x.told(1), 3000);
        Check.due("steps of 0", x.of(0, 5), 2999);
        Check.due("tick(200) then", x.tick(200), 0);
        Check.due("tick(1) then", x.tick(1), 0);
        Check.due("time", x.told(0), x.action(2999, 2) + 1);
        // 299 slots of 10 steps and the one step of domain 1 came before the last slot.
        Check.due("ticks left", x.told(5), 1);
    }

    private static void idleTicksPass() {
        Sentence.of("Promise 9", "a step that would be the 3001st action");
        SplitKernel x = goingRound();
        for (int i = 0; i < 9; i++) {
            x.input(i / 8, i);
        }
        fill(x, 3000);
        Check.due("actions at the end of a slot", x.told(1), 3000);
        Check.due("ticks left of the next, which is idle", x.told(5), 5);
        Check.due("tick(3), none of which has a step", x.tick(3), 0);
        Check.due("ticks left, as these passed", x.told(5), 2);
        Check.due("tick(200), till a step would come", x.tick(200), 0);
        Check.due("whose slot is next", x.told(2), 0);
        Check.due("ticks left, none of them begun", x.told(5), 10);
        Check.due("actions", x.told(1), 3000);
        Check.due("tick(200) again", x.tick(200), 0);
        Check.due("ticks left", x.told(5), 10);
    }

    private static void tickNotBegun() {
        Sentence.of("Promise 9", "(that tick is not begun).");
        SplitKernel x = new SplitKernel(2);
        x.flow(1, 0, true);
        x.channel(1, 0, false, 1);
        Check.program(x, 0, Check.op(9, 0, 0, 0));
        Check.program(x, 1, Check.set(1, 1), Check.op(14, 0, 0, 1), Check.op(9, 0, 1, 0));
        x.slot(0, 0, 10);
        x.slot(0, 1, 20);
        x.seal();
        fill(x, 3000);
        Check.due("the 3000th action's domain", x.action(2999, 0), 1);
        for (int i = 0; i < 2; i++) {
            Check.due("messages that wait, as the slot has not begun", x.at(0, 5), 1);
            Check.due("messages to take from the slot before", x.at(0, 4), 1);
            Check.due("messages lost", x.at(0, 6), 98);
            Check.due("time", x.told(0), 3000);
            Check.due("ticks of 0", x.of(0, 6), 1000);
            Check.due("steps of 0", x.of(0, 5), 1000);
            Check.due("ticks left", x.told(5), 10);
            Check.due("tick(200)", x.tick(200), 0);
        }
    }

    private static void otherTicks() {
        Sentence.of("Promise 9", "NONE for other numbers");
        SplitKernel x = Town.sealed();
        int[] others = {MIN, -200, -1, 0, 201, 202, MAX};
        for (int n : others) {
            Check.due("tick(" + n + ")", x.tick(n), -1);
        }
        Check.due("time", x.told(0), 0);
        Town.dueUntouchedSince("so many ticks", x);
    }

    private static void tickNotSealed() {
        Sentence.of("Promise 9", "or when the kernel is not sealed.");
        SplitKernel x = Town.planned();
        Check.due("tick(1)", x.tick(1), -1);
        Check.due("tick(200)", x.tick(200), -1);
        Check.due("time", x.told(0), 0);
        Town.dueUntouched("ticks before sealing", x);
    }
}
