/** Promises 8 to 13, 15 and 16: inputs, ticks, schedules, actions, and looking at a kernel that runs. */
public final class RunTest {
    private static final int MAX = Integer.MAX_VALUE;
    private static final int MIN = Integer.MIN_VALUE;

    public static void main(String[] args) {
        inputs();
        ticks();
        lastAction();
        lastActionIsAnInput();
        idleTicksPass();
        tickNotBegun();
        looks();
        beforeSealing();
        slots();
        schedules();
        asking();
        actions();
        Check.end();
    }

    private static void inputs() {
        SplitKernel x = new SplitKernel(2);
        x.slot(0, 0, 1);
        Check.due("input() before sealing", x.input(0, 1), -1);
        x.seal();
        int[] none = {MIN, -1, 2, MAX};
        for (int d : none) {
            Check.due("input(" + d + ", 1)", x.input(d, 1), -1);
        }
        for (int i = 1; i <= 8; i++) {
            Check.due("input " + i, x.input(1, i), i);
        }
        Check.due("a 9th input", x.input(1, 9), -1);
        Check.due("actions", x.told(1), 8);
        Check.due("inputs that wait", x.of(1, 2), 8);
        Check.due("input of the other", x.input(0, 1), 1);
        x.tick(1);
        Check.due("state", x.of(0, 1), 2);
        Check.due("input of one that has failed", x.input(0, 1), 2);
    }

    private static void ticks() {
        SplitKernel x = new SplitKernel(2);
        Check.program(x, 0, Check.op(9, 0, 0, 0));
        Check.program(x, 1, Check.op(0, 0, 0, 0));
        x.slot(0, 0, 2);
        x.slot(0, 1, 3);
        Check.due("tick() before sealing", x.tick(1), -1);
        x.seal();
        int[] others = {MIN, -1, 0, 201, MAX};
        for (int n : others) {
            Check.due("tick(" + n + ")", x.tick(n), -1);
        }
        Check.due("time", x.told(0), 0);
        Check.due("tick(1)", x.tick(1), 1);
        Check.due("tick(200)", x.tick(200), 81);
        Check.due("time", x.told(0), 201);
        Check.due("steps of 0", x.of(0, 5), 81);
        Check.due("ticks of 0", x.of(0, 6), 81);
        Check.due("steps of 1", x.of(1, 5), 1);
        Check.due("ticks of 1", x.of(1, 6), 120);
        Check.due("actions", x.told(1), 82);
    }

    private static SplitKernel looping() {
        SplitKernel x = new SplitKernel(2);
        Check.program(x, 0, Check.op(9, 0, 0, 0));
        Check.program(x, 1, Check.op(0, 0, 0, 0));
        x.slot(0, 0, 7);
        x.slot(0, 1, 3);
        x.seal();
        return x;
    }

    private static void lastAction() {
        SplitKernel x = looping();
        int steps = 0;
        for (int i = 0; i < 30; i++) {
            steps += x.tick(200);
        }
        Check.due("steps", steps, 3000);
        Check.due("actions", x.told(1), 3000);
        // 428 rounds of 7 steps, one step of domain 1, and 3 steps: before the 4th the last call ended.
        Check.due("time", x.told(0), 4283);
        Check.due("told(5)", x.told(5), 4);
        Check.due("tick(1) then", x.tick(1), 0);
        Check.due("time then", x.told(0), 4283);
        Check.due("input() then", x.input(1, 1), -1);
        Check.due("action 2999", x.action(2999, 2), 4282);
        Check.due("action 3000", x.action(3000, 2), 0);
        Check.due("undisturbed(0)", x.undisturbed(0), 1);
        Check.due("purge(0)", x.purge(0), 2999);
        Check.due("kept(2999)", x.kept(2999), 1);
        Check.due("kept(3000)", x.kept(3000), -1);
    }

    private static void lastActionIsAnInput() {
        SplitKernel x = looping();
        ticksFor(x, 4282);
        Check.due("actions", x.told(1), 2999);
        Check.due("the last input", x.input(0, 7), 1);
        Check.due("actions", x.told(1), 3000);
        Check.due("one more input", x.input(0, 7), -1);
        Check.due("a tick with a step", x.tick(1), 0);
        Check.due("time", x.told(0), 4282);
    }

    private static void ticksFor(SplitKernel x, int n) {
        for (int left = n; left > 0; left -= 200) {
            x.tick(Math.min(left, 200));
        }
    }

    /** Ticks without a step pass, too, when there are 3000 actions. */
    private static void idleTicksPass() {
        SplitKernel x = new SplitKernel(2);
        Check.program(x, 0, Check.op(9, 0, 0, 0));
        Check.program(x, 1, Check.op(0, 0, 0, 0));
        x.slot(0, 0, 10);
        x.slot(0, 1, 5);
        x.seal();
        for (int i = 0; i < 9; i++) {
            x.input(i / 8, i);
        }
        // 299 slots of 10 steps, the inputs, and the one step of domain 1.
        ticksFor(x, 299 * 15 - 5);
        Check.due("actions", x.told(1), 3000);
        Check.due("time", x.told(0), 4480);
        Check.due("tick(2)", x.tick(2), 0);
        Check.due("time after two ticks without a step", x.told(0), 4482);
        Check.due("tick(200)", x.tick(200), 0);
        Check.due("time before the next step", x.told(0), 4485);
        Check.due("told(2)", x.told(2), 0);
        Check.due("ticks of 1", x.of(1, 6), 299 * 5);
    }

    /** The tick whose step would be the 3001st action is not begun, not even its slot. */
    private static void tickNotBegun() {
        SplitKernel x = new SplitKernel(2);
        x.flow(1, 0, true);
        x.channel(1, 0, false, 1);
        Check.program(x, 0, Check.op(9, 0, 0, 0));
        Check.program(x, 1, Check.set(1, 1), Check.op(14, 0, 0, 1), Check.op(9, 0, 1, 0));
        x.slot(0, 0, 5);
        x.slot(0, 1, 20);
        x.seal();
        ticksFor(x, 3000);
        Check.due("actions", x.told(1), 3000);
        Check.due("messages that wait", x.at(0, 5), 1);
        Check.due("messages to take", x.at(0, 4), 1);
        Check.due("messages lost", x.at(0, 6), 118);
        Check.due("tick(3)", x.tick(3), 0);
        Check.due("time", x.told(0), 3000);
        Check.due("domain of the next tick", x.told(2), 0);
        Check.due("ticks left", x.told(5), 5);
        Check.due("messages that wait still", x.at(0, 5), 1);
        Check.due("messages lost still", x.at(0, 6), 118);
        Check.due("ticks of 0", x.of(0, 6), 600);
    }

    private static void looks() {
        SplitKernel x = Check.alone(Check.set(7, 8), Check.set(1, 31), Check.op(13, 7, 1, 0), Check.op(18, 7, 0, 0),
                Check.op(255, 0, 0, 0));
        x.input(0, 4);
        x.tick(7);
        int[] of = {4, 2, 1, 1, 1, 5, 7, 0};
        for (int what = 0; what < 8; what++) {
            Check.due("of(0, " + what + ")", x.of(0, what), of[what]);
            Check.due("of(1, " + what + ")", x.of(1, what), 0);
        }
        Check.due("register(0, 7)", x.register(0, 7), 8);
        Check.due("cell(0, 31)", x.cell(0, 31), 8);
        Check.due("output(0, 0)", x.output(0, 0), 8);
        int[] none = {MIN, -1, 2, MAX};
        for (int d : none) {
            Check.due("register(" + d + ", 7)", x.register(d, 7), 0);
            Check.due("cell(" + d + ", 31)", x.cell(d, 31), 0);
            Check.due("output(" + d + ", 0)", x.output(d, 0), 0);
            Check.due("of(" + d + ", 0)", x.of(d, 0), -1);
        }
        int[] others = {MIN, -1, 8, 32, 200, MAX};
        for (int k : others) {
            Check.due("register(0, " + k + ")", x.register(0, k), 0);
            Check.due("cell(0, " + (k == 8 ? 33 : k) + ")", x.cell(0, k == 8 ? 33 : k), 0);
            Check.due("output(0, " + k + ")", x.output(0, k), 0);
            Check.due("of(0, " + k + ")", x.of(0, k), -1);
        }
        Check.due("output(0, 1)", x.output(0, 1), 0);
    }

    private static void beforeSealing() {
        SplitKernel x = new SplitKernel(5);
        x.slot(0, 1, 3);
        int[] told = {0, 0, -1, 0, 0, 0, 0, 0, 5, 0};
        for (int what = 0; what < told.length; what++) {
            Check.due("told(" + what + ")", x.told(what), told[what]);
        }
        int[] others = {MIN, -1, 10, MAX};
        for (int what : others) {
            Check.due("told(" + what + ")", x.told(what), -1);
        }
    }

    private static void slots() {
        SplitKernel x = new SplitKernel(3);
        x.slot(0, 2, 2);
        x.slot(0, 0, 1);
        x.slot(0, 1, 3);
        x.seal();
        int[][] rows = {{2, 0, 2}, {2, 0, 1}, {0, 1, 1}, {1, 2, 3}, {1, 2, 2}, {1, 2, 1}, {2, 0, 2}};
        for (int time = 0; time < rows.length; time++) {
            Check.due("told(0)", x.told(0), time);
            Check.due("told(2) at " + time, x.told(2), rows[time][0]);
            Check.due("told(3) at " + time, x.told(3), rows[time][1]);
            Check.due("told(4) at " + time, x.told(4), 0);
            Check.due("told(5) at " + time, x.told(5), rows[time][2]);
            x.tick(1);
        }
    }

    private static void schedules() {
        SplitKernel x = new SplitKernel(2);
        x.flow(0, 1, true);
        Check.program(x, 0, Check.op(23, 1, 0, 0), Check.op(9, 0, 2, 0), Check.op(9, 0, 3, 0), Check.op(23, 2, 0, 0), Check.op(9, 0, 4, 0));
        x.slot(0, 0, 1);
        x.slot(0, 1, 2);
        x.slot(1, 0, 1);
        x.seal();
        x.tick(1);
        Check.due("schedule that is asked for", x.told(6), 1);
        Check.due("schedule till its end", x.told(4), 0);
        x.tick(2);
        Check.due("schedule after its end", x.told(4), 1);
        Check.due("its domain", x.told(2), 0);
        x.tick(1);
        Check.due("schedule, asking stays", x.told(4), 1);
        Check.due("slot", x.told(3), 0);
        x.tick(1);
        Check.due("asked for", x.told(6), 1);
        x.tick(1);
        Check.due("asked for", x.told(6), 2);
        Check.due("one without slots counts as 0", x.told(4), 0);
        Check.due("ticks", x.told(5), 1);
        x.tick(3);
        Check.due("and again", x.told(4), 0);
        Check.due("asking stays", x.told(6), 2);
        Check.due("slot", x.told(3), 0);
    }

    private static int failsOfAsking(boolean reigns, int schedule) {
        SplitKernel x = new SplitKernel(3);
        x.flow(0, 1, true);
        x.flow(0, 2, reigns);
        x.flow(1, 0, true);
        Check.program(x, 0, Check.op(23, schedule, 0, 0));
        x.slot(0, 0, 2);
        x.seal();
        x.tick(1);
        Check.due("asked for", x.told(6), x.of(0, 4) == 0 ? schedule : 0);
        Check.due("reigns", x.of(0, 7), reigns ? 1 : 0);
        return x.of(0, 4);
    }

    private static void asking() {
        for (int schedule = 0; schedule < 3; schedule++) {
            Check.due("asking by one that reigns", failsOfAsking(true, schedule), 0);
            Check.due("asking by one that does not", failsOfAsking(false, schedule), 1);
        }
        Check.due("asking for 3", failsOfAsking(true, 3), 1);
        Check.due("asking for 255", failsOfAsking(true, 255), 1);
    }

    private static void actions() {
        SplitKernel x = new SplitKernel(2);
        int bad = Check.op(255, 1, 2, 200);
        Check.program(x, 1, Check.op(21, 0, 0, 0), bad);
        x.onFail(1, 2);
        x.slot(0, 1, 3);
        x.seal();
        x.input(0, -7);
        x.tick(3);
        x.input(1, 9);
        x.tick(2);
        int[][] rows = {{0, 1, 0, -7}, {1, 0, 0, 21}, {1, 1, 3, 9}, {1, 0, 3, bad}, {1, 0, 4, 0}, {0, 0, 0, 0}};
        Check.due("actions", x.told(1), 5);
        for (int i = 0; i < rows.length; i++) {
            for (int what = 0; what < 4; what++) {
                Check.due("action(" + i + ", " + what + ")", x.action(i, what), rows[i][what]);
            }
        }
        int[] others = {MIN, -1, 4, MAX};
        for (int k : others) {
            Check.due("action(3, " + k + ")", x.action(3, k), 0);
            Check.due("action(" + (k == 4 ? 5 : k) + ", 3)", x.action(k == 4 ? 5 : k, 3), 0);
        }
    }
}
