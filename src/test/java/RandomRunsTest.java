import java.util.Random;

/** Random runs of calls, each answer held against the Model's; and every domain is undisturbed. */
public final class RandomRunsTest {
    private static final int RUNS = 1500;
    private static final int[] ODD = {-1, 2, 3, 5, 6, 7, 8, 9, 12, 31, 32, 199, 200, 201, Integer.MAX_VALUE, Integer.MIN_VALUE};

    private final Random random;
    private final SplitKernel x;
    private final Model m;
    private final String run;
    private final int domains;
    private final int oneInIsOdd;

    private RandomRunsTest(long seed) {
        random = new Random(seed);
        run = "run " + seed + ": ";
        oneInIsOdd = random.nextInt(10) == 0 ? 3 : 20;
        int told = random.nextInt(8) == 0 ? odd(9) : 2 + random.nextInt(5);
        x = new SplitKernel(told);
        m = new Model(told);
        domains = m.told(8);
    }

    public static void main(String[] args) {
        for (int i = 0; i < RUNS; i++) {
            new RandomRunsTest(i).whole();
        }
        Check.end();
    }

    private void whole() {
        policyAndChannels();
        programs();
        for (int i = 0; i < 6; i++) {
            look();
        }
        slots();
        due("seal()", x.seal(), m.seal());
        int calls = 20 + random.nextInt(120);
        int longest = random.nextBoolean() ? 200 : 12;
        for (int i = 0; i < calls; i++) {
            act(longest);
        }
        for (int d = 0; d < domains; d++) {
            due("undisturbed " + d, x.undisturbed(d), m.undisturbed(d));
            if (m.told(9) == 1) {
                due("undisturbed indeed " + d, x.undisturbed(d), 1);
            }
        }
        lookAtAll();
    }

    private int odd(int bound) {
        return random.nextInt(oneInIsOdd) == 0 ? ODD[random.nextInt(ODD.length)] : random.nextInt(bound);
    }

    private int domain() {
        return odd(domains);
    }

    private void due(String call, long got, long want) {
        Check.due(run + call, got, want);
    }

    private void policyAndChannels() {
        int flows = random.nextInt(domains * domains + 1);
        for (int i = 0; i < flows; i++) {
            int a = domain();
            int b = domain();
            boolean may = random.nextInt(6) != 0;
            due("flow", x.flow(a, b, may) ? 1 : 0, m.flow(a, b, may) ? 1 : 0);
        }
        if (random.nextBoolean()) {
            int lord = random.nextInt(domains);
            for (int b = 0; b < domains; b++) {
                due("flow", x.flow(lord, b, true) ? 1 : 0, m.flow(lord, b, true) ? 1 : 0);
            }
        }
        int channels = random.nextInt(40);
        for (int i = 0; i < channels; i++) {
            int from = domain();
            int to = domain();
            boolean board = random.nextInt(3) == 0;
            int size = 1 + odd(4);
            due("channel", x.channel(from, to, board, size), m.channel(from, to, board, size));
            boolean may = random.nextBoolean();
            due("flow", x.flow(from, to, may) ? 1 : 0, m.flow(from, to, may) ? 1 : 0);
        }
    }

    private void programs() {
        for (int d = 0; d < domains; d++) {
            int how = random.nextInt(3) == 0 ? odd(3) : 1 + random.nextInt(2);
            due("onFail", x.onFail(d, how) ? 1 : 0, m.onFail(d, how) ? 1 : 0);
            int length = random.nextInt(12) == 0 ? 66 : random.nextInt(25);
            for (int i = 0; i < length; i++) {
                int instruction = instruction(d, length);
                due("code", x.code(d, instruction), m.code(d, instruction));
            }
        }
        int none = domain();
        due("code", x.code(none, 9), m.code(none, 9));
    }

    private int instruction(int d, int length) {
        int kind = random.nextInt(100);
        if (kind < 25) {
            int v = kind < 15 ? random.nextInt(5) : kind < 20 ? random.nextInt(34) - 1 : random.nextInt(65536);
            return Check.set(random.nextInt(8), v);
        }
        if (kind < 28) {
            return random.nextInt();
        }
        int operation = kind < 55 ? 14 + random.nextInt(4) : random.nextInt(26);
        if (operation == 0 && random.nextInt(4) != 0) {
            operation = 9;
        }
        if (operation >= 14 && operation <= 17) {
            return Check.op(operation, channelFor(d, operation), random.nextInt(8), random.nextInt(8));
        }
        if (operation == 23) {
            return Check.op(23, odd(3) & 255, 0, 0);
        }
        if (operation == 22) {
            return Check.op(22, random.nextInt(8), domain() & 255, random.nextInt(8));
        }
        boolean jumps = operation >= 9 && operation <= 11;
        return Check.op(operation, random.nextInt(9), jumps ? random.nextInt(length + 1) : random.nextInt(8), random.nextInt(8));
    }

    /** Mostly one that the domain may use so. */
    private int channelFor(int d, int operation) {
        int channel = random.nextInt(13);
        for (int tries = 0; tries < 20; tries++) {
            boolean isKind = m.at(channel, 2) == (operation >= 16 ? 1 : 0);
            if (isKind && m.at(channel, operation % 2) == d) {
                return channel;
            }
            channel = random.nextInt(12);
        }
        return channel;
    }

    private void slots() {
        for (int s = 0; s < 3; s++) {
            int many = s == 0 || random.nextBoolean() ? random.nextInt(14) : 0;
            for (int i = 0; i < many; i++) {
                int schedule = random.nextInt(20) == 0 ? odd(4) : s;
                int d = domain();
                int ticks = random.nextInt(3) == 0 ? odd(22) : 1 + random.nextInt(8);
                due("slot", x.slot(schedule, d, ticks), m.slot(schedule, d, ticks));
            }
        }
    }

    private void act(int longest) {
        int kind = random.nextInt(10);
        int d = domain();
        if (kind < 4) {
            int n = random.nextInt(10) == 0 ? odd(202) : 1 + random.nextInt(longest);
            due("tick(" + n + ")", x.tick(n), m.tick(n));
        } else if (kind < 6) {
            int v = random.nextInt(4) == 0 ? random.nextInt() : random.nextInt(40) - 4;
            due("input", x.input(d, v), m.input(d, v));
        } else if (kind == 6 && random.nextInt(3) == 0) {
            due("purge " + d, x.purge(d), m.purge(d));
        } else if (kind == 7 && random.nextInt(3) == 0) {
            due("undisturbed " + d, x.undisturbed(d), m.undisturbed(d));
        } else {
            look();
        }
    }

    private void look() {
        int d = domain();
        int k = odd(40);
        int what = odd(10);
        due("register", x.register(d, k), m.register(d, k));
        due("cell", x.cell(d, k), m.cell(d, k));
        due("of", x.of(d, what), m.of(d, what));
        due("output", x.output(d, k), m.output(d, k));
        due("at", x.at(k, what), m.at(k, what));
        due("told", x.told(what), m.told(what));
        due("action", x.action(k, what), m.action(k, what));
        due("kept", x.kept(k), m.kept(k));
        due("purged", x.purged(d, what, k), m.purged(d, what, k));
    }

    private void lookAtAll() {
        for (int d = 0; d < domains; d++) {
            for (int k = 0; k < 32; k++) {
                due("register", x.register(d, k), m.register(d, k));
                due("cell", x.cell(d, k), m.cell(d, k));
                due("of", x.of(d, k), m.of(d, k));
                due("at", x.at(k, d), m.at(k, d));
                due("at", x.at(k, d + 4), m.at(k, d + 4));
                due("told", x.told(k), m.told(k));
            }
            for (int k = 0; k < 201; k++) {
                due("output", x.output(d, k), m.output(d, k));
                for (int what = 0; what < 9; what++) {
                    due("purged", x.purged(d, what, k), m.purged(d, what, k));
                }
            }
        }
        for (int i = 0; i < 3001; i++) {
            due("kept", x.kept(i), m.kept(i));
            for (int what = 0; what < 5; what++) {
                due("action", x.action(i, what), m.action(i, what));
            }
        }
    }
}
