/** Promises 1 to 7: what is told before the kernel is sealed. */
public final class SetupTest {
    private static final int MAX = Integer.MAX_VALUE;
    private static final int MIN = Integer.MIN_VALUE;

    public static void main(String[] args) {
        newObject();
        flow();
        channel();
        code();
        onFail();
        slot();
        seal();
        nothingAfterSeal();
        Check.end();
    }

    private static void newObject() {
        int[][] counts = {{MIN, 2}, {-1, 2}, {0, 2}, {1, 2}, {2, 2}, {3, 3}, {5, 5}, {6, 6}, {7, 6}, {MAX, 6}};
        for (int[] count : counts) {
            SplitKernel x = new SplitKernel(count[0]);
            Check.due("told(8) of " + count[0], x.told(8), count[1]);
            Check.due("of(last, 0) of " + count[0], x.of(count[1] - 1, 0), 0);
            Check.due("of(beyond, 0) of " + count[0], x.of(count[1], 0), -1);
        }
        SplitKernel x = new SplitKernel(2);
        Check.due("told(7)", x.told(7), 0);
        Check.due("told(9)", x.told(9), 0);
        Check.due("told(2)", x.told(2), -1);
        Check.due("seal() without slots", x.seal(), -1);
        Check.due("channel(0, 1)", x.channel(0, 1, false, 1), -1);
        Check.due("channel(1, 0)", x.channel(1, 0, false, 1), -1);
        Check.due("code(0)", x.code(0, 255), 1);
        Check.due("slot(0)", x.slot(0, 0, 1), 1);
        x.seal();
        x.tick(1);
        Check.due("state after a fail", x.of(0, 1), 2);
    }

    private static void flow() {
        SplitKernel x = new SplitKernel(3);
        Check.due("of(0, 7) at first", x.of(0, 7), 0);
        Check.due("flow(0, 1, true)", x.flow(0, 1, true), true);
        Check.due("of(0, 7) with one", x.of(0, 7), 0);
        Check.due("flow(0, 2, true)", x.flow(0, 2, true), true);
        Check.due("of(0, 7) with all", x.of(0, 7), 1);
        Check.due("of(1, 7)", x.of(1, 7), 0);
        Check.due("flow(0, 2, false)", x.flow(0, 2, false), true);
        Check.due("of(0, 7) less one", x.of(0, 7), 0);
        Check.due("channel(0, 2) less it", x.channel(0, 2, false, 1), -1);
        Check.due("flow(0, 2, false) again", x.flow(0, 2, false), true);
        Check.due("flow(0, 2, true) back", x.flow(0, 2, true), true);
        Check.due("flow(1, 1, true)", x.flow(1, 1, true), false);
        Check.due("flow(0, 0, false)", x.flow(0, 0, false), false);
        Check.due("of(0, 7) after flow(0, 0, false)", x.of(0, 7), 1);
        int[] none = {-1, 3, 6, 32, 33, MAX, MIN};
        for (int d : none) {
            Check.due("flow(" + d + ", 0, true)", x.flow(d, 0, true), false);
            Check.due("flow(0, " + d + ", false)", x.flow(0, d, false), false);
        }
        Check.due("channel(0, 1)", x.channel(0, 1, true, 1), 0);
        Check.due("flow(0, 1, false) with a channel", x.flow(0, 1, false), false);
        Check.due("flow(0, 1, true) with a channel", x.flow(0, 1, true), true);
        Check.due("flow(1, 0, false) beside the channel", x.flow(1, 0, false), true);
        Check.due("of(0, 7) still", x.of(0, 7), 1);
        Check.due("flow(2, 1, true)", x.flow(2, 1, true), true);
        Check.due("flow(2, 1, false), to where the channel goes", x.flow(2, 1, false), true);
        Check.due("flow(0, 2, false), from where the channel comes", x.flow(0, 2, false), true);
        Check.due("of(0, 7) at last", x.of(0, 7), 0);
    }

    private static void channel() {
        SplitKernel x = new SplitKernel(3);
        x.flow(0, 1, true);
        x.flow(1, 2, true);
        int[] none = {-1, 3, 6, 32, MAX, MIN};
        for (int d : none) {
            Check.due("channel(" + d + ", 1)", x.channel(d, 1, false, 1), -1);
            Check.due("channel(0, " + d + ")", x.channel(0, d, false, 1), -1);
        }
        int[] sizes = {MIN, -1, 0, 5, MAX};
        for (int size : sizes) {
            Check.due("channel of size " + size, x.channel(0, 1, true, size), -1);
        }
        Check.due("channel(0, 0)", x.channel(0, 0, false, 1), -1);
        Check.due("channel(1, 0)", x.channel(1, 0, false, 1), -1);
        Check.due("channel(0, 2), by two flows alone", x.channel(0, 2, false, 1), -1);
        Check.due("told(7)", x.told(7), 0);
        for (int i = 0; i < 12; i++) {
            Check.due("channel " + i, x.channel(i % 2, i % 2 + 1, i % 3 == 0, i % 4 + 1), i);
        }
        Check.due("a 13th channel", x.channel(0, 1, false, 1), -1);
        Check.due("told(7)", x.told(7), 12);
        for (int i = 0; i < 12; i++) {
            Check.due("from of " + i, x.at(i, 0), i % 2);
            Check.due("to of " + i, x.at(i, 1), i % 2 + 1);
            Check.due("kind of " + i, x.at(i, 2), i % 3 == 0 ? 1 : 0);
            Check.due("size of " + i, x.at(i, 3), i % 4 + 1);
        }
    }

    private static void code() {
        SplitKernel x = new SplitKernel(2);
        Check.due("code(-1)", x.code(-1, 0), -1);
        Check.due("code(2)", x.code(2, 0), -1);
        Check.due("code(MAX)", x.code(MAX, 0), -1);
        for (int i = 1; i <= 64; i++) {
            Check.due("instruction " + i, x.code(1, Check.set(0, i)), i);
        }
        Check.due("a 65th instruction", x.code(1, 0), -1);
        Check.due("code of the other", x.code(0, MIN), 1);
        x.slot(0, 1, 20);
        x.seal();
        for (int i = 1; i <= 64; i++) {
            x.tick(1);
            Check.due("register after " + i, x.register(1, 0), i);
        }
        x.tick(1);
        Check.due("state behind the program", x.of(1, 1), 2);
    }

    private static void onFail() {
        SplitKernel x = new SplitKernel(4);
        int[] others = {MIN, -1, 3, MAX};
        for (int how : others) {
            Check.due("onFail(0, " + how + ")", x.onFail(0, how), false);
        }
        int[] none = {-1, 4, 6, MAX, MIN};
        for (int d : none) {
            Check.due("onFail(" + d + ", 0)", x.onFail(d, 0), false);
        }
        Check.due("onFail(0, 2)", x.onFail(0, 2), true);
        Check.due("onFail(0, 0)", x.onFail(0, 0), true);
        Check.due("onFail(1, 1)", x.onFail(1, 1), true);
        Check.due("onFail(2, 2)", x.onFail(2, 2), true);
        for (int d = 0; d < 4; d++) {
            Check.program(x, d, Check.set(1, 31), Check.op(13, 1, 1, 0), Check.op(25, 0, 0, 0), Check.set(2, 5));
            x.slot(0, d, 4);
        }
        x.seal();
        Check.due("tick(16)", x.tick(16), 3 + 4 + 4 + 3);
        int[][] state = {{2, 2, 1}, {1, 0, 1}, {4, 0, 1}, {2, 2, 1}};
        for (int d = 0; d < 4; d++) {
            Check.due("place of " + d, x.of(d, 0), state[d][0]);
            Check.due("state of " + d, x.of(d, 1), state[d][1]);
            Check.due("fails of " + d, x.of(d, 4), state[d][2]);
        }
        Check.due("cell of 1, cleared", x.cell(1, 31), 0);
        Check.due("register of 1, set anew", x.register(1, 1), 31);
        Check.due("cell of 2, left", x.cell(2, 31), 31);
        Check.due("register of 2 behind the fail", x.register(2, 2), 5);
        Check.due("cell of 0, left", x.cell(0, 31), 31);
    }

    private static void slot() {
        SplitKernel x = new SplitKernel(2);
        int[] schedules = {MIN, -1, 3, MAX};
        for (int s : schedules) {
            Check.due("slot(" + s + ", 0, 1)", x.slot(s, 0, 1), -1);
        }
        int[] domains = {MIN, -1, 2, MAX};
        for (int d : domains) {
            Check.due("slot(0, " + d + ", 1)", x.slot(0, d, 1), -1);
        }
        int[] ticks = {MIN, -1, 0, 21, MAX};
        for (int n : ticks) {
            Check.due("slot(0, 0, " + n + ")", x.slot(0, 0, n), -1);
        }
        Check.due("seal() when all slots were refused", x.seal(), -1);
        for (int s = 0; s < 3; s++) {
            for (int i = 1; i <= 12; i++) {
                Check.due("slot " + i + " of " + s, x.slot(s, i % 2, i == 1 ? 20 : 1), i);
            }
            Check.due("a 13th slot of " + s, x.slot(s, 0, 1), -1);
        }
        x.seal();
        Check.due("domain of the first slot", x.told(2), 1);
        Check.due("ticks of the first slot", x.told(5), 20);
        x.tick(20);
        Check.due("domain of the second slot", x.told(2), 0);
        Check.due("ticks of the second slot", x.told(5), 1);
        x.tick(10);
        Check.due("the last slot", x.told(3), 11);
        x.tick(1);
        Check.due("the first slot again", x.told(3), 0);
    }

    private static void seal() {
        SplitKernel x = new SplitKernel(2);
        x.slot(1, 0, 1);
        x.slot(2, 0, 1);
        Check.due("seal() without slots in schedule 0", x.seal(), -1);
        Check.due("told(9)", x.told(9), 0);
        x.slot(0, 1, 3);
        Check.due("seal()", x.seal(), 1);
        Check.due("told(9)", x.told(9), 1);
        Check.due("told(2)", x.told(2), 1);
        Check.due("seal() again", x.seal(), -1);
        Check.due("told(9) still", x.told(9), 1);
    }

    private static void nothingAfterSeal() {
        SplitKernel x = new SplitKernel(2);
        x.flow(0, 1, true);
        x.slot(0, 0, 1);
        x.seal();
        Check.due("flow", x.flow(1, 0, true), false);
        Check.due("flow less", x.flow(0, 1, false), false);
        Check.due("channel", x.channel(0, 1, false, 1), -1);
        Check.due("code", x.code(0, 0), -1);
        Check.due("onFail", x.onFail(0, 2), false);
        Check.due("slot", x.slot(1, 0, 1), -1);
        Check.due("reigns", x.of(0, 7), 1);
        Check.due("channels", x.told(7), 0);
        x.tick(1);
        Check.due("state", x.of(0, 1), 2);
    }
}
