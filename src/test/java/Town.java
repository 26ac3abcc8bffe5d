/** A kernel in which all kinds of things go on, and a look at all of it: to see that a refused call did nothing. */
final class Town {
    private static final int DOMAINS = 3;

    private Town() {
    }

    /** Each domain may flow to the next one; by a queue from 0 to 1, by a board from 1 to 2. Not sealed. */
    static SplitKernel planned() {
        SplitKernel x = new SplitKernel(DOMAINS);
        x.flow(0, 1, true);
        x.flow(1, 2, true);
        x.channel(0, 1, false, 1);
        x.channel(1, 2, true, 2);
        Check.program(x, 0, Check.op(19, 1, 0, 0), Check.op(13, 1, 0, 0), Check.set(2, 1), Check.op(14, 0, 0, 2), Check.op(9, 0, 0, 0));
        Check.program(x, 1, Check.op(15, 0, 0, 0), Check.op(16, 1, 0, 0), Check.op(18, 7, 0, 0), Check.op(9, 0, 0, 0));
        Check.program(x, 2, Check.op(17, 1, 0, 0), Check.op(18, 7, 0, 0), Check.op(255, 0, 0, 0), Check.op(9, 0, 0, 0));
        x.onFail(2, 2);
        x.slot(0, 0, 3);
        x.slot(0, 1, 2);
        x.slot(0, 2, 4);
        x.slot(1, 2, 1);
        return x;
    }

    static SplitKernel sealed() {
        SplitKernel x = planned();
        x.seal();
        return x;
    }

    /** A kernel that was planned so, and was asked a thing that is refused, goes on like one that was not asked. */
    static void dueUntouched(String call, SplitKernel x) {
        SplitKernel y = planned();
        for (int a = 0; a < DOMAINS; a++) {
            for (int b = 0; b < DOMAINS; b++) {
                Check.due("channel(" + a + ", " + b + ") after " + call, x.channel(a, b, false, 1), y.channel(a, b, false, 1));
            }
        }
        for (int schedule = 0; schedule < 3; schedule++) {
            Check.due("slot(" + schedule + ") after " + call, x.slot(schedule, 1, 1), y.slot(schedule, 1, 1));
        }
        Check.due("seal() after " + call, x.seal(), y.seal());
        dueSame(call, x, y);
    }

    /** The same of one that is sealed already. */
    static void dueUntouchedSince(String call, SplitKernel x) {
        dueSame(call, x, sealed());
    }

    private static void dueSame(String call, SplitKernel x, SplitKernel y) {
        goOn(x);
        goOn(y);
        Check.due("all that can be seen after " + call + " is as without it", looks(x).equals(looks(y)), true);
    }

    private static void goOn(SplitKernel x) {
        x.input(0, 5);
        x.tick(30);
        x.input(1, 6);
        x.tick(7);
    }

    private static String looks(SplitKernel x) {
        StringBuilder all = new StringBuilder();
        for (int d = 0; d < DOMAINS; d++) {
            for (int k = 0; k < 32; k++) {
                all.append(x.cell(d, k)).append(' ');
            }
            for (int k = 0; k < 8; k++) {
                all.append(x.register(d, k)).append(' ').append(x.of(d, k)).append(' ');
            }
            for (int i = 0; i < x.of(d, 3); i++) {
                all.append(x.output(d, i)).append(' ');
            }
            all.append(x.purge(d)).append(' ').append(x.undisturbed(d)).append('\n');
        }
        for (int what = 0; what < 10; what++) {
            all.append(x.told(what)).append(' ');
            for (int i = 0; i < x.told(7); i++) {
                all.append(x.at(i, what)).append(' ');
            }
        }
        for (int i = 0; i < x.told(1); i++) {
            all.append(x.action(i, 0)).append(' ').append(x.action(i, 3)).append(' ');
        }
        return all.toString();
    }
}
