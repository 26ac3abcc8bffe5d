/** Promises 17 to 19 and the terms of actions, sources and purging: a test for each clause of theirs. */
final class PurgeBoundaries {
    private static final int MAX = Integer.MAX_VALUE;
    private static final int MIN = Integer.MIN_VALUE;
    private static final int[] NO_DOMAINS = {MIN, -1, 3, 4, 6, 32, MAX};

    private PurgeBoundaries() {
    }

    static void all() {
        howManyWereKept();
        purgeOfNoDomain();
        purgeNotSealed();
        kept();
        keptOfNone();
        purged();
        purgedOfNone();
        actions();
        lastAction();
        sources();
        dropped();
        purgedKernel();
        sameAgain();
    }

    /** Domain 0 may flow to 1, 1 to 2; each goes round, in slots of two ticks, and sets its register 0 to the time. */
    private static SplitKernel chain() {
        SplitKernel x = new SplitKernel(3);
        x.flow(0, 1, true);
        x.flow(1, 2, true);
        for (int d = 0; d < 3; d++) {
            Check.program(x, d, Check.op(20, 0, 0, 0), Check.op(9, 0, 0, 0));
            x.slot(0, d, 2);
        }
        x.seal();
        return x;
    }

    private static void dueKept(SplitKernel x, int domain, int... due) {
        int many = 0;
        for (int isKept : due) {
            many += isKept;
        }
        Check.due("purge(" + domain + ")", x.purge(domain), many);
        for (int i = 0; i < due.length; i++) {
            Check.due("kept(" + i + ") for " + domain, x.kept(i), due[i]);
        }
        Check.due("kept(" + due.length + ") for " + domain, x.kept(due.length), -1);
    }

    private static void howManyWereKept() {
        Sentence.of("Promise 17", "The actions are purged for a domain, and done: how many were kept.");
        SplitKernel x = chain();
        for (int d = 0; d < 3; d++) {
            Check.due("purge(" + d + ") without actions", x.purge(d), 0);
        }
        x.tick(2);
        Check.due("purge(2), none is kept", x.purge(2), 0);
        Check.due("purge(1), all are", x.purge(1), 2);
        Check.due("purge(0), all are", x.purge(0), 2);
        x.tick(4);
        x.input(2, 5);
        Check.due("purge(0)", x.purge(0), 2);
        Check.due("purge(1)", x.purge(1), 4);
        Check.due("purge(2)", x.purge(2), 7);
        Check.due("purge(2) again", x.purge(2), 7);
        Check.due("steps of 2 in the purged kernel", x.purged(2, 7, 0), 2);
        Check.due("actions, as before", x.told(1), 7);
        Check.due("time, as before", x.told(0), 6);
        Check.due("tick(2), as before", x.tick(2), 2);
    }

    private static void purgeOfNoDomain() {
        Sentence.of("Promise 17", "NONE when there is no such domain");
        SplitKernel x = chain();
        x.tick(4);
        x.purge(1);
        for (int d : NO_DOMAINS) {
            Check.due("purge(" + d + ")", x.purge(d), -1);
        }
        Check.due("kept(3) of the purge before", x.kept(3), 1);
        Check.due("kept(4) of the purge before", x.kept(4), -1);
        Check.due("steps of 1 by the purge before", x.purged(1, 7, 0), 2);
    }

    private static void purgeNotSealed() {
        Sentence.of("Promise 17", "or the kernel is not sealed.");
        SplitKernel x = Town.planned();
        for (int d = 0; d < 3; d++) {
            Check.due("purge(" + d + ")", x.purge(d), -1);
        }
        Check.due("kept(0)", x.kept(0), -1);
        x.seal();
        Check.due("purge(0) when sealed", x.purge(0), 0);
        x = Town.planned();
        x.purge(0);
        Town.dueUntouched("purge() before sealing", x);
    }

    private static void kept() {
        Sentence.of("Promise 18", "Whether action i was kept by the latest purge() that was not NONE: 1, else 0");
        SplitKernel x = chain();
        x.tick(8);
        dueKept(x, 0, 1, 1, 0, 0, 0, 0, 1, 1);
        dueKept(x, 1, 1, 1, 1, 1, 0, 0, 1, 1);
        dueKept(x, 2, 1, 1, 1, 1, 1, 1, 0, 0);
        x.purge(-1);
        x.purge(3);
        Check.due("kept(7) after purges that were NONE", x.kept(7), 0);
        Check.due("kept(5) after purges that were NONE", x.kept(5), 1);
        x.undisturbed(0);
        Check.due("kept(7) after undisturbed()", x.kept(7), 0);
    }

    private static void keptOfNone() {
        Sentence.of("Promise 18", "NONE when there was none");
        SplitKernel x = chain();
        x.tick(2);
        Check.due("kept(0) without a purge()", x.kept(0), -1);
        x.purge(3);
        Check.due("kept(0) after one that was NONE", x.kept(0), -1);
        x.undisturbed(0);
        Check.due("kept(0) after undisturbed()", x.kept(0), -1);

        Sentence.of("Promise 18", "or no such action then.");
        x.purge(0);
        int[] none = {MIN, -1, 2, 3, 3000, MAX};
        for (int i : none) {
            Check.due("kept(" + i + ")", x.kept(i), -1);
        }
        Check.due("kept(1)", x.kept(1), 1);
        x.tick(2);
        Check.due("kept(2), an action that came later", x.kept(2), -1);
        x.purge(0);
        Check.due("kept(2) by the next purge()", x.kept(2), 0);
        x = chain();
        x.purge(0);
        Check.due("kept(0) when there was no action", x.kept(0), -1);
    }

    /** Two domains apart; domain 0 has made four steps, and would stop with the next one. */
    private static SplitKernel apart() {
        SplitKernel x = new SplitKernel(2);
        x.onFail(0, 2);
        Check.program(x, 0, Check.set(7, 5), Check.op(13, 7, 7, 0), Check.op(18, 7, 0, 0), Check.op(99, 0, 0, 0), Check.op(0, 0, 0, 0));
        x.slot(0, 0, 4);
        x.slot(0, 1, 1);
        x.seal();
        x.tick(4);
        return x;
    }

    private static void purged() {
        String[] words = {"What the purged kernel of that purge() has: register k of a domain (what 0)", "cell k (1)", "output k (2)",
            "its place (3)", "its state (4)", "how many outputs (5)", "fails (6)", "steps that it made (7)."};
        int[] whole = {5, 5, 5, 4, 0, 1, 1, 4};
        int[] stopped = {5, 5, 5, 4, 1, 1, 1, 5};
        int[] ks = {7, 5, 0, 0, 0, 0, 0, 0};
        for (int what = 0; what < 8; what++) {
            Sentence.of("Promise 19", words[what]);
            SplitKernel x = apart();
            x.purge(1);
            Check.due("of 0, dropped for 1", x.purged(0, what, ks[what]), 0);
            Check.due("of 1, which made no step", x.purged(1, what, ks[what]), 0);
            x.purge(0);
            Check.due("of 0", x.purged(0, what, ks[what]), whole[what]);
            x.tick(6);
            Check.due("of 0, by that purge still", x.purged(0, what, ks[what]), whole[what]);
            x.purge(0);
            Check.due("of 0, when it has stopped", x.purged(0, what, ks[what]), stopped[what]);
            if (what >= 3) {
                Check.due("of 0, k is nothing to it", x.purged(0, what, MIN), stopped[what]);
            }
        }
    }

    private static void purgedOfNone() {
        Sentence.of("Promise 19", "0 when there is none such");
        SplitKernel x = apart();
        for (int what = 0; what < 8; what++) {
            Check.due("purged(0, " + what + ", 0) without a purge()", x.purged(0, what, 0), 0);
        }
        x.undisturbed(0);
        Check.due("purged(0, 0, 7) after undisturbed()", x.purged(0, 0, 7), 0);
        x.purge(2);
        Check.due("purged(0, 0, 7) after a purge() that was NONE", x.purged(0, 0, 7), 0);
        x.purge(0);
        int[] noDomains = {MIN, -1, 2, 3, MAX};
        for (int d : noDomains) {
            for (int what = 0; what < 8; what++) {
                Check.due("purged(" + d + ", " + what + ", 5)", x.purged(d, what, 5), 0);
            }
        }
        int[] noRegisters = {MIN, -1, 8, 15, MAX};
        for (int k : noRegisters) {
            Check.due("purged(0, 0, " + k + ")", x.purged(0, 0, k), 0);
        }
        int[] noCells = {MIN, -1, 32, 37, MAX};
        for (int k : noCells) {
            Check.due("purged(0, 1, " + k + ")", x.purged(0, 1, k), 0);
        }
        int[] noOutputs = {MIN, -1, 1, 200, MAX};
        for (int k : noOutputs) {
            Check.due("purged(0, 2, " + k + ")", x.purged(0, 2, k), 0);
        }
        x.purge(1);
        Check.due("purged(0, 2, 0), dropped for 1", x.purged(0, 2, 0), 0);
        Sentence.of("Promise 19", "or for others.");
        x.purge(0);
        int[] others = {MIN, -1, 8, 9, 255, MAX};
        for (int what : others) {
            for (int k = 0; k < 8; k += 7) {
                Check.due("purged(0, " + what + ", " + k + ")", x.purged(0, what, k), 0);
            }
        }
    }

    private static void dueActions(SplitKernel x, int what, int... due) {
        Check.due("actions", x.told(1), due.length);
        for (int i = 0; i < due.length; i++) {
            Check.due("action(" + i + ", " + what + ")", x.action(i, what), due[i]);
        }
    }

    private static void actions() {
        SplitKernel x = new SplitKernel(3);
        Check.program(x, 1, Check.op(21, 0, 0, 0), Check.op(0, 0, 0, 0));
        x.slot(0, 1, 2);
        x.slot(0, 0, 1);
        x.seal();
        x.input(2, 20);
        x.input(0, 10);
        x.tick(3);
        x.input(2, 21);
        x.tick(6);
        x.input(-1, 1);
        Sentence.of("Terms", "ACTIONS, in the order in which they came");
        dueActions(x, 2, 0, 0, 0, 2, 3, 3);
        Sentence.of("Terms", "inputs (of their domain)");
        dueActions(x, 1, 1, 1, 0, 0, 1, 0);
        dueActions(x, 3, 20, 10, 21, 0, 21, 0);
        Sentence.of("Terms", "and steps (of theirs");
        dueActions(x, 0, 2, 0, 1, 0, 2, 1);
        Sentence.of("Terms", "a tick without a step is none, but time passes).");
        Check.due("time", x.told(0), 9);
        Check.due("tick(200)", x.tick(200), 0);
        Check.due("actions", x.told(1), 6);
        Check.due("time", x.told(0), 209);
    }

    private static void lastAction() {
        Sentence.of("Terms", "at most 3000");
        SplitKernel x = Check.alone(Check.op(9, 0, 0, 0));
        x.input(1, 1);
        for (int i = 0; i < 20; i++) {
            x.tick(200);
        }
        Check.due("actions", x.told(1), 3000);
        Check.due("steps", x.of(0, 5), 2999);
        Check.due("time", x.told(0), 2999);
        Check.due("input(0, 1)", x.input(0, 1), -1);
        Check.due("action(2999, 2)", x.action(2999, 2), 2998);
        Check.due("action(3000, 2)", x.action(3000, 2), 0);
        Check.due("purge(0)", x.purge(0), 2999);
        Check.due("purge(1)", x.purge(1), 1);
        Check.due("kept(0)", x.kept(0), 1);
        Check.due("kept(2999)", x.kept(2999), 0);
        Check.due("kept(3000)", x.kept(3000), -1);
        Check.due("undisturbed(0)", x.undisturbed(0), 1);
    }

    private static void sources() {
        Sentence.of("Terms", "SOURCES of a domain d, from the last action back to the first one");
        SplitKernel x = chain();
        x.tick(8);
        // What 0 did first came to 2 by what 1 did then; what it did last didn't.
        dueKept(x, 2, 1, 1, 1, 1, 1, 1, 0, 0);
        x.tick(1);
        dueKept(x, 2, 1, 1, 1, 1, 1, 1, 1, 1, 1);

        Sentence.of("Terms", "at first d alone");
        x = chain();
        x.input(2, 1);
        x.input(1, 1);
        x.input(0, 1);
        dueKept(x, 0, 0, 0, 1);
        dueKept(x, 1, 0, 1, 1);
        dueKept(x, 2, 1, 1, 0);

        Sentence.of("Terms", "an action of a domain that may flow to a source makes that domain a source, and is KEPT");
        x = new SplitKernel(6);
        for (int d = 0; d < 5; d++) {
            x.flow(d, d + 1, true);
        }
        x.slot(0, 0, 1);
        x.seal();
        for (int d = 0; d < 6; d++) {
            x.input(d, d);
        }
        dueKept(x, 5, 1, 1, 1, 1, 1, 1);
        dueKept(x, 3, 1, 1, 1, 1, 0, 0);
        for (int d = 5; d >= 0; d--) {
            x.input(d, d);
        }
        dueKept(x, 5, 1, 1, 1, 1, 1, 1, 1, 1, 0, 0, 0, 0);
        dueKept(x, 0, 1, 0, 0, 0, 0, 0, 0, 0, 0, 0, 0, 1);

        Sentence.of("Terms", "others are dropped.");
        x = new SplitKernel(3);
        x.flow(2, 0, true);
        x.flow(2, 1, true);
        x.slot(0, 0, 1);
        x.seal();
        x.input(0, 1);
        x.input(2, 1);
        x.input(1, 1);
        dueKept(x, 0, 1, 1, 0);
        dueKept(x, 1, 0, 1, 1);
        dueKept(x, 2, 0, 1, 0);
    }

    private static void dropped() {
        Sentence.of("Terms", "(So with its steps: a step that is dropped is not made, but its tick passes.)");
        SplitKernel x = chain();
        x.tick(13);
        x.purge(1);
        Check.due("steps of 2", x.purged(2, 7, 0), 0);
        Check.due("place of 2", x.purged(2, 3, 0), 0);
        Check.due("register of 2", x.purged(2, 0, 0), 0);
        Check.due("the time that 1 saw, as in truth", x.purged(1, 0, 0), 8);
        Check.due("the time that 0 saw, as in truth", x.purged(0, 0, 0), 12);
        Check.due("steps of 1", x.purged(1, 7, 0), 4);
    }

    private static void purgedKernel() {
        Sentence.of("Terms", "PURGED for d: a kernel that was sealed like this one gets the kept actions");
        SplitKernel x = new SplitKernel(2);
        x.onFail(1, 1);
        Check.program(x, 1, Check.set(1, 1), Check.op(18, 1, 0, 0), Check.op(99, 0, 0, 0));
        Check.program(x, 0, Check.op(9, 0, 0, 0));
        x.slot(0, 0, 3);
        x.slot(0, 1, 2);
        x.seal();
        x.tick(15);
        for (int i = 0; i < 2; i++) {
            Check.due("purge(1)", x.purge(1), 6);
            Check.due("outputs", x.purged(1, 5, 0), 2);
            Check.due("fails", x.purged(1, 6, 0), 2);
            Check.due("place", x.purged(1, 3, 0), 0);
            Check.due("state", x.purged(1, 4, 0), 0);
            Check.due("purge(0), which has nothing of the purge before", x.purge(0), 9);
            Check.due("outputs of 1", x.purged(1, 5, 0), 0);
            Check.due("fails of 1", x.purged(1, 6, 0), 0);
        }
        startsAnew();
        Sentence.of("Terms", "in their order");
        x = Check.alone(Check.op(19, 1, 0, 0), Check.op(18, 1, 0, 0), Check.op(9, 0, 0, 0));
        for (int i = 1; i <= 8; i++) {
            x.input(0, i);
        }
        x.tick(1);
        x.input(0, 9);
        x.tick(26);
        x.purge(0);
        for (int i = 0; i < 9; i++) {
            Check.due("output " + i, x.purged(0, 2, i), i + 1);
        }
        eachAtItsTime();
        asManyTicks();
    }

    /** Nothing of the purge before: not what a board showed, nor who had stopped, nor a schedule that was asked for. */
    private static void startsAnew() {
        SplitKernel x = Check.pair(true, 1);
        Check.program(x, 0, Check.set(1, 5), Check.op(13, 1, 0, 0), Check.op(16, 0, 0, 0), Check.op(23, 1, 0, 0), Check.op(0, 0, 0, 0));
        Check.program(x, 1, Check.op(17, 0, 0, 0), Check.op(18, 7, 0, 0), Check.op(12, 1, 0, 0), Check.op(18, 1, 0, 0), Check.op(0, 0, 0, 0));
        x.slot(0, 1, 4);
        x.slot(0, 0, 3);
        x.slot(1, 0, 2);
        x.slot(1, 1, 2);
        x.seal();
        Check.due("tick(20)", x.tick(20), 10);
        for (int i = 0; i < 3; i++) {
            Check.due("purge(1)", x.purge(1), 10);
            Check.due("state of 1", x.purged(1, 4, 0), 1);
            Check.due("age that 1 saw at first", x.purged(1, 2, 0), -1);
            Check.due("int that 1 saw at first", x.purged(1, 2, 1), 0);
            Check.due("place of 0", x.purged(0, 3, 0), 4);
            Check.due("undisturbed(1)", x.undisturbed(1), 1);
            Check.due("purge(0)", x.purge(0), 5);
            Check.due("state of 1, that made no step", x.purged(1, 4, 0), 0);
            Check.due("steps of 1", x.purged(1, 7, 0), 0);
            Check.due("undisturbed(0)", x.undisturbed(0), 1);
        }
    }

    private static void eachAtItsTime() {
        Sentence.of("Terms", "each at its time");
        SplitKernel x = new SplitKernel(2);
        Check.program(x, 1, Check.op(19, 1, 0, 0), Check.op(18, 7, 0, 0), Check.op(20, 2, 0, 0), Check.op(18, 2, 0, 0), Check.op(24, 3, 0, 0),
                Check.op(18, 3, 0, 0), Check.op(9, 0, 0, 0));
        Check.program(x, 0, Check.op(9, 0, 0, 0));
        x.slot(0, 0, 5);
        x.slot(0, 1, 7);
        x.seal();
        x.tick(5);
        x.input(1, 4);
        x.tick(13);
        x.input(1, 4);
        x.input(0, 4);
        x.tick(12);
        x.purge(1);
        int[] due = {1, 7, 3, 0, 19, 3, 1, 31, 3};
        x.tick(6);
        x.purge(1);
        for (int i = 0; i < due.length; i++) {
            Check.due("output " + i + " in truth", x.output(1, i), due[i]);
            Check.due("output " + i, x.purged(1, 2, i), due[i]);
        }
    }

    private static void asManyTicks() {
        Sentence.of("Terms", "and as many ticks in all.");
        SplitKernel x = Check.pair(false, 1);
        x.channel(0, 1, true, 1);
        Check.program(x, 0, Check.set(1, 1), Check.op(14, 0, 0, 1), Check.op(16, 1, 0, 0), Check.op(0, 0, 0, 0));
        Check.program(x, 1, Check.op(0, 0, 0, 0));
        x.slot(0, 1, 1);
        x.slot(0, 0, 4);
        x.seal();
        x.tick(5);
        for (int i = 0; i < 12; i++) {
            Check.due("undisturbed(1), ages and messages being the same at " + x.told(0), x.undisturbed(1), 1);
            x.tick(1);
        }
        Check.due("messages lost", x.at(0, 6), 1);
        Check.due("age", x.at(1, 8), 14);
    }

    private static void sameAgain() {
        Sentence.of("Terms", "What was done is kept as a row of actions; for each domain it is purged of all that may not have come to it, "
                + "and done once more: it sees just the same.");
        SplitKernel x = Town.sealed();
        x.input(0, 5);
        x.tick(40);
        x.input(2, 6);
        x.tick(23);
        for (int d = 0; d < 3; d++) {
            Check.due("undisturbed(" + d + ")", x.undisturbed(d), 1);
            x.purge(d);
            for (int k = 0; k < 8; k++) {
                Check.due("register(" + d + ", " + k + ")", x.purged(d, 0, k), x.register(d, k));
                Check.due("output(" + d + ", " + k + ")", x.purged(d, 2, k), x.output(d, k));
                Check.due("cell(" + d + ", " + k + ")", x.purged(d, 1, k), x.cell(d, k));
            }
            int[] whats = {0, 1, 3, 4, 5};
            for (int i = 0; i < whats.length; i++) {
                Check.due("of(" + d + ", " + whats[i] + ")", x.purged(d, 3 + i, 0), x.of(d, whats[i]));
            }
        }
    }
}
