/** Promises 17 to 20: what is kept for a domain, and what the purged kernel has. */
public final class PurgeTest {
    private static final int MAX = Integer.MAX_VALUE;
    private static final int MIN = Integer.MIN_VALUE;

    public static void main(String[] args) {
        refused();
        withoutActions();
        apart();
        twoFlows();
        lastInputs();
        latestStays();
        purgedKernel();
        idleTicks();
        schedulesAreKept();
        startsAnew();
        channelsStartAnew();
        ticksAfterTheLastAction();
        Check.end();
    }

    private static void refused() {
        SplitKernel x = new SplitKernel(2);
        x.slot(0, 0, 1);
        Check.due("purge() before sealing", x.purge(0), -1);
        Check.due("undisturbed() before sealing", x.undisturbed(0), -1);
        Check.due("kept() before", x.kept(0), -1);
        Check.due("purged() before", x.purged(0, 4, 0), 0);
        x.seal();
        x.tick(1);
        int[] none = {MIN, -1, 2, MAX};
        for (int d : none) {
            Check.due("purge(" + d + ")", x.purge(d), -1);
            Check.due("undisturbed(" + d + ")", x.undisturbed(d), -1);
        }
        Check.due("kept() without a purge()", x.kept(0), -1);
        Check.due("purged() without a purge()", x.purged(0, 4, 0), 0);
        Check.due("undisturbed(0)", x.undisturbed(0), 1);
        Check.due("kept() after undisturbed()", x.kept(0), -1);
        Check.due("purged() after undisturbed()", x.purged(0, 4, 0), 0);
        Check.due("purge(0)", x.purge(0), 1);
        Check.due("kept(0)", x.kept(0), 1);
        Check.due("purged(0, 4, 0)", x.purged(0, 4, 0), 2);
    }

    private static void withoutActions() {
        SplitKernel x = Check.alone(Check.set(0, 1));
        Check.due("purge(0)", x.purge(0), 0);
        Check.due("kept(0)", x.kept(0), -1);
        Check.due("purged(0, 7, 0)", x.purged(0, 7, 0), 0);
        Check.due("undisturbed(0)", x.undisturbed(0), 1);
        Check.due("undisturbed(1)", x.undisturbed(1), 1);
    }

    private static void apart() {
        SplitKernel x = new SplitKernel(2);
        for (int d = 0; d < 2; d++) {
            Check.program(x, d, Check.op(19, 0, 0, 0), Check.op(18, 0, 0, 0), Check.op(9, 0, 0, 0));
        }
        x.slot(0, 0, 3);
        x.slot(0, 1, 3);
        x.seal();
        x.input(1, 50);
        x.input(0, 40);
        x.tick(6);
        // inputs of 1 and 0, three steps of 0, three of 1
        int[][] kept = {{0, 1, 1, 1, 1, 0, 0, 0}, {1, 0, 0, 0, 0, 1, 1, 1}};
        for (int d = 0; d < 2; d++) {
            Check.due("purge(" + d + ")", x.purge(d), 4);
            for (int i = 0; i < 8; i++) {
                Check.due("kept(" + i + ") for " + d, x.kept(i), kept[d][i]);
            }
            Check.due("output of its own", x.purged(d, 2, 0), d == 0 ? 40 : 50);
            Check.due("outputs of its own", x.purged(d, 5, 0), 1);
            Check.due("outputs of the other", x.purged(1 - d, 5, 0), 0);
            Check.due("steps of the other", x.purged(1 - d, 7, 0), 0);
            Check.due("undisturbed", x.undisturbed(d), 1);
        }
        int[] none = {MIN, -1, 8, MAX};
        for (int i : none) {
            Check.due("kept(" + i + ")", x.kept(i), -1);
        }
    }

    /** 0 may flow to 1, 1 to 2, 0 not to 2: of 0 comes to 2 just what 1 may have sent on. */
    private static void twoFlows() {
        SplitKernel x = new SplitKernel(3);
        x.flow(0, 1, true);
        x.flow(1, 2, true);
        for (int d = 0; d < 3; d++) {
            Check.program(x, d, Check.set(1, 1), Check.op(3, 0, 0, 1), Check.op(9, 0, 1, 0));
        }
        x.slot(0, 0, 2);
        x.slot(0, 1, 2);
        x.slot(0, 2, 2);
        x.seal();
        x.tick(10);
        // steps 0 0 1 1 2 2 0 0 1 1, then two of 2, then two of 0 that nobody passes on
        Check.due("purge(2) when 1 was last", x.purge(2), 10);
        x.tick(4);
        Check.due("purge(2) when 0 was last", x.purge(2), 12);
        Check.due("kept(11)", x.kept(11), 1);
        Check.due("kept(12)", x.kept(12), 0);
        Check.due("kept(13)", x.kept(13), 0);
        Check.due("steps of 0", x.purged(0, 7, 0), 4);
        Check.due("steps of 0 in truth", x.of(0, 5), 6);
        Check.due("register of 0", x.purged(0, 0, 0), 2);
        Check.due("register of 0 in truth", x.register(0, 0), 3);
        Check.due("place of 0", x.purged(0, 3, 0), 2);
        Check.due("purge(1)", x.purge(1), 10);
        Check.due("kept(4), a step of 2", x.kept(4), 0);
        Check.due("kept(13), a step of 0", x.kept(13), 1);
        Check.due("purge(0)", x.purge(0), 6);
        Check.due("steps of 1", x.purged(1, 7, 0), 0);
        x.tick(1);
        Check.due("purge(2) when 1 came again", x.purge(2), 15);
        for (int d = 0; d < 3; d++) {
            Check.due("undisturbed(" + d + ")", x.undisturbed(d), 1);
        }
    }

    private static void lastInputs() {
        SplitKernel x = new SplitKernel(2);
        x.flow(0, 1, true);
        x.slot(0, 0, 1);
        x.slot(0, 1, 1);
        x.seal();
        x.tick(2);
        x.input(1, 1);
        x.input(0, 2);
        x.input(1, 3);
        Check.due("purge(1)", x.purge(1), 5);
        Check.due("purge(0)", x.purge(0), 2);
        Check.due("kept(3)", x.kept(3), 1);
        Check.due("kept(4)", x.kept(4), 0);
        Check.due("undisturbed(0)", x.undisturbed(0), 1);
        Check.due("undisturbed(1)", x.undisturbed(1), 1);
    }

    private static void latestStays() {
        SplitKernel x = new SplitKernel(2);
        Check.program(x, 0, Check.op(18, 0, 0, 0), Check.op(9, 0, 0, 0));
        Check.program(x, 1, Check.set(3, 3), Check.op(9, 0, 1, 0));
        x.slot(0, 0, 2);
        x.slot(0, 1, 2);
        x.seal();
        x.tick(4);
        Check.due("purge(0)", x.purge(0), 2);
        x.tick(4);
        x.undisturbed(1);
        x.purge(-1);
        x.purge(2);
        Check.due("kept(0) still", x.kept(0), 1);
        Check.due("kept(2) still", x.kept(2), 0);
        Check.due("kept(4), not there then", x.kept(4), -1);
        Check.due("outputs still", x.purged(0, 5, 0), 1);
        Check.due("steps still", x.purged(0, 7, 0), 2);
        Check.due("register of 1 still", x.purged(1, 0, 3), 0);
        Check.due("purge(1)", x.purge(1), 4);
        Check.due("kept(0) for 1", x.kept(0), 0);
        Check.due("kept(7) for 1", x.kept(7), 1);
        Check.due("outputs for 1", x.purged(0, 5, 0), 0);
        Check.due("register of 1", x.purged(1, 0, 3), 3);
        Check.due("outputs in truth", x.of(0, 3), 2);
    }

    private static void purgedKernel() {
        SplitKernel x = Check.aloneOnFail(2, Check.set(7, 8), Check.set(1, 31), Check.op(13, 7, 1, 0), Check.op(18, 7, 0, 0),
                Check.op(18, 1, 0, 0), Check.op(255, 0, 0, 0), Check.op(0, 0, 0, 0));
        x.tick(20);
        Check.due("purge(0)", x.purge(0), 7);
        Check.due("register", x.purged(0, 0, 7), 8);
        Check.due("cell", x.purged(0, 1, 31), 8);
        Check.due("output 0", x.purged(0, 2, 0), 8);
        Check.due("output 1", x.purged(0, 2, 1), 31);
        Check.due("output 2", x.purged(0, 2, 2), 0);
        int[] counts = {6, 1, 2, 1, 7};
        for (int what = 3; what <= 7; what++) {
            Check.due("purged(0, " + what + ", 0)", x.purged(0, what, 0), counts[what - 3]);
            Check.due("purged(0, " + what + ", MIN)", x.purged(0, what, MIN), counts[what - 3]);
        }
        int[] others = {MIN, -1, 8, 32, 200, MAX};
        for (int k : others) {
            Check.due("purged(0, " + k + ", 0)", x.purged(0, k, 0), 0);
            Check.due("purged(0, 0, " + k + ")", x.purged(0, 0, k), 0);
            Check.due("purged(0, 1, " + k + ")", x.purged(0, 1, k), 0);
            Check.due("purged(0, 2, " + k + ")", x.purged(0, 2, k), 0);
        }
        int[] none = {MIN, -1, 2, MAX};
        for (int d : none) {
            Check.due("purged(" + d + ", 0, 7)", x.purged(d, 0, 7), 0);
            Check.due("purged(" + d + ", 7, 0)", x.purged(d, 7, 0), 0);
        }
    }

    /** Steps that are dropped let their ticks pass: time, ages and ticks left are the same. */
    private static void idleTicks() {
        SplitKernel x = new SplitKernel(3);
        x.flow(1, 2, true);
        x.channel(1, 2, true, 1);
        x.channel(1, 2, false, 2);
        Check.program(x, 0, Check.op(9, 0, 0, 0));
        Check.program(x, 1, Check.set(1, 1), Check.op(16, 0, 1, 0), Check.op(14, 1, 1, 1), Check.op(9, 0, 1, 0));
        Check.program(x, 2, Check.op(20, 0, 0, 0), Check.op(18, 0, 0, 0), Check.op(17, 0, 1, 0), Check.op(18, 7, 0, 0),
                Check.op(15, 1, 1, 0), Check.op(18, 7, 0, 0), Check.op(24, 0, 0, 0), Check.op(18, 0, 0, 0), Check.op(9, 0, 0, 0));
        x.slot(0, 0, 7);
        x.slot(0, 1, 5);
        x.slot(0, 2, 9);
        x.seal();
        x.tick(200);
        x.input(2, 5);
        for (int d = 0; d < 3; d++) {
            Check.due("undisturbed(" + d + ")", x.undisturbed(d), 1);
        }
        x.purge(2);
        Check.due("outputs", x.purged(2, 5, 0), x.of(2, 3));
        Check.due("first output", x.purged(2, 2, 0), 12);
        for (int i = 0; i < x.of(2, 3); i++) {
            Check.due("output " + i, x.purged(2, 2, i), x.output(2, i));
        }
        Check.due("steps of 0", x.purged(0, 7, 0), 0);
    }

    /** A domain that reigns asks for schedules: for all others that is kept. */
    private static void schedulesAreKept() {
        SplitKernel x = new SplitKernel(3);
        x.flow(1, 0, true);
        x.flow(1, 2, true);
        Check.program(x, 0, Check.op(20, 0, 0, 0), Check.op(18, 0, 0, 0), Check.op(9, 0, 0, 0));
        Check.program(x, 1, Check.op(9, 0, 1, 0), Check.op(9, 0, 2, 0), Check.op(23, 1, 0, 0), Check.op(9, 0, 4, 0),
                Check.op(23, 0, 0, 0), Check.op(9, 0, 2, 0));
        Check.program(x, 2, Check.op(9, 0, 0, 0));
        x.slot(0, 0, 2);
        x.slot(0, 1, 2);
        x.slot(1, 2, 5);
        x.slot(1, 1, 2);
        x.slot(1, 0, 3);
        x.seal();
        x.tick(104);
        for (int d = 0; d < 3; d++) {
            Check.due("undisturbed(" + d + ")", x.undisturbed(d), 1);
        }
        x.purge(0);
        Check.due("steps of 0", x.purged(0, 7, 0), x.of(0, 5));
        Check.due("steps of 2", x.purged(2, 7, 0), 0);
        Check.due("schedule in truth", x.told(4), 0);
        Check.due("time in truth", x.told(0), 104);
        x.tick(6);
        Check.due("schedule later", x.told(4), 1);
        for (int round = 0; round < 2; round++) {
            Check.due("undisturbed(0) later", x.undisturbed(0), 1);
            x.purge(0);
            for (int i = 0; i < x.of(0, 3); i++) {
                Check.due("output " + i, x.purged(0, 2, i), x.output(0, i));
            }
        }
    }

    /** The kernel that is used again for the next purge has nothing left of the one before. */
    private static void startsAnew() {
        SplitKernel x = new SplitKernel(2);
        x.flow(0, 1, true);
        x.channel(0, 1, false, 1);
        x.channel(0, 1, true, 1);
        x.onFail(0, 2);
        Check.program(x, 0, Check.set(1, 1), Check.op(13, 1, 1, 0), Check.op(14, 0, 1, 1), Check.op(16, 1, 1, 0), Check.op(18, 1, 0, 0),
                Check.op(255, 0, 0, 0), Check.op(0, 0, 0, 0));
        Check.program(x, 1, Check.op(15, 0, 0, 0), Check.op(17, 1, 0, 0));
        x.slot(0, 0, 7);
        x.slot(0, 1, 3);
        x.seal();
        x.input(0, 1);
        x.tick(30);
        for (int round = 0; round < 3; round++) {
            Check.due("purge(1)", x.purge(1), 11);
            Check.due("steps of 0", x.purged(0, 7, 0), 7);
            Check.due("outputs of 0", x.purged(0, 5, 0), 1);
            Check.due("fails of 0", x.purged(0, 6, 0), 1);
            Check.due("state of 0", x.purged(0, 4, 0), 1);
            Check.due("undisturbed(1)", x.undisturbed(1), 1);
            Check.due("undisturbed(0)", x.undisturbed(0), 1);
            Check.due("purge(0)", x.purge(0), 8);
            Check.due("steps of 1", x.purged(1, 7, 0), 0);
            Check.due("state of 1", x.purged(1, 4, 0), 0);
        }
    }

    /** Messages that wait and are there to be taken, and a written board, don't come into the next purge. */
    private static void channelsStartAnew() {
        SplitKernel x = new SplitKernel(2);
        x.flow(0, 1, true);
        x.channel(0, 1, false, 2);
        x.channel(0, 1, true, 1);
        Check.program(x, 0, Check.set(1, 1), Check.op(13, 1, 0, 0), Check.op(14, 0, 0, 1), Check.op(14, 0, 0, 1), Check.op(16, 1, 0, 0),
                Check.op(9, 0, 2, 0));
        Check.program(x, 1, Check.op(17, 1, 0, 0), Check.op(18, 7, 0, 0), Check.op(22, 2, 1, 0), Check.op(18, 2, 0, 0),
                Check.op(15, 0, 0, 0), Check.op(18, 7, 0, 0), Check.op(9, 0, 0, 0));
        x.slot(0, 1, 7);
        x.slot(0, 0, 6);
        x.seal();
        x.tick(13 + 7 + 6);
        Check.due("messages to take", x.at(0, 4), 1);
        Check.due("messages that wait", x.at(0, 5), 2);
        for (int round = 0; round < 3; round++) {
            Check.due("undisturbed(1)", x.undisturbed(1), 1);
            Check.due("purge(1)", x.purge(1), 26);
            int[] outputs = {-1, 0, -1, 2, 1, 1};
            for (int i = 0; i < outputs.length; i++) {
                Check.due("output " + i, x.output(1, i), outputs[i]);
                Check.due("purged output " + i, x.purged(1, 2, i), outputs[i]);
            }
        }
    }

    /** As many ticks in all: a slot that begins behind the last action still brings the messages. */
    private static void ticksAfterTheLastAction() {
        SplitKernel x = new SplitKernel(2);
        x.flow(0, 1, true);
        x.channel(0, 1, false, 1);
        Check.program(x, 0, Check.set(1, 1), Check.op(14, 0, 0, 1), Check.op(0, 0, 0, 0));
        Check.program(x, 1, Check.op(0, 0, 0, 0));
        x.slot(0, 1, 1);
        x.slot(0, 0, 5);
        x.seal();
        x.tick(6);
        Check.due("messages that wait", x.at(0, 5), 1);
        Check.due("undisturbed(1) while it waits", x.undisturbed(1), 1);
        Check.due("tick(3)", x.tick(3), 0);
        Check.due("messages to take", x.at(0, 4), 1);
        Check.due("undisturbed(1) when it is there", x.undisturbed(1), 1);
        x.tick(6);
        Check.due("messages lost", x.at(0, 6), 1);
        Check.due("undisturbed(1) when it is lost", x.undisturbed(1), 1);
    }
}
