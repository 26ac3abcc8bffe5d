/** Promises 10 to 16, which look at a kernel: a test for each clause of theirs. */
final class LookBoundaries {
    private static final int MAX = Integer.MAX_VALUE;
    private static final int MIN = Integer.MIN_VALUE;
    private static final int[] NO_DOMAINS = {MIN, -2, -1, 2, 3, 6, 32, MAX};

    private LookBoundaries() {
    }

    static void all() {
        registers();
        cells();
        outputs();
        of();
        atOfAnyKind();
        atOfQueue();
        atOfBoard();
        atOfNone();
        told();
        toldOfSlots();
        action();
    }

    /** Both domains set all their registers, to other numbers each. */
    private static void registers() {
        Sentence.of("Promise 10", "Register k of a domain");
        SplitKernel x = new SplitKernel(2);
        for (int d = 0; d < 2; d++) {
            for (int k = 0; k < 8; k++) {
                Check.program(x, d, Check.set(k, 100 * d + k + 1));
            }
            x.slot(0, d, 8);
        }
        x.seal();
        x.tick(16);
        for (int d = 0; d < 2; d++) {
            for (int k = 0; k < 8; k++) {
                Check.due("register(" + d + ", " + k + ")", x.register(d, k), 100 * d + k + 1);
            }
        }
        Sentence.of("Promise 10", "0 when there is none such.");
        int[] none = {MIN, -8, -1, 8, 9, 15, 32, MAX};
        for (int k : none) {
            Check.due("register(0, " + k + ")", x.register(0, k), 0);
            Check.due("register(1, " + k + ")", x.register(1, k), 0);
        }
        for (int d : NO_DOMAINS) {
            Check.due("register(" + d + ", 0)", x.register(d, 0), 0);
            Check.due("register(" + d + ", 7)", x.register(d, 7), 0);
        }
    }

    /** Domain d writes to each cell its number and a thousand times d + 1, domain 0 and 1 alike. */
    private static void cells() {
        Sentence.of("Promise 11", "Cell k of a domain");
        SplitKernel x = new SplitKernel(2);
        for (int d = 0; d < 2; d++) {
            Check.program(x, d, Check.set(3, 1), Check.set(2, 1000 * (d + 1)), Check.op(13, 2, 1, 0), Check.op(3, 1, 1, 3),
                    Check.op(3, 2, 2, 3), Check.op(9, 0, 2, 0));
            x.slot(0, d, 20);
        }
        x.seal();
        x.tick(200);
        x.tick(120);
        for (int d = 0; d < 2; d++) {
            Check.due("state of " + d + ", which came to cell 32", x.of(d, 1), 2);
            for (int k = 0; k < 32; k++) {
                Check.due("cell(" + d + ", " + k + ")", x.cell(d, k), 1000 * (d + 1) + k);
            }
        }
        Sentence.of("Promise 11", "0 when there is none such.");
        int[] none = {MIN, -32, -1, 32, 33, 63, MAX};
        for (int k : none) {
            Check.due("cell(0, " + k + ")", x.cell(0, k), 0);
            Check.due("cell(1, " + k + ")", x.cell(1, k), 0);
        }
        for (int d : NO_DOMAINS) {
            Check.due("cell(" + d + ", 0)", x.cell(d, 0), 0);
            Check.due("cell(" + d + ", 31)", x.cell(d, 31), 0);
        }
    }

    private static void outputs() {
        Sentence.of("Promise 13", "Output i of a domain");
        SplitKernel x = new SplitKernel(2);
        for (int d = 0; d < 2; d++) {
            Check.program(x, d, Check.set(1, 2 * d - 1), Check.op(3, 0, 0, 1), Check.op(18, 0, 0, 0), Check.op(9, 0, 1, 0));
            x.slot(0, d, 20);
        }
        x.seal();
        for (int i = 0; i < 7; i++) {
            x.tick(200);
        }
        for (int i = 0; i < 200; i++) {
            Check.due("output(0, " + i + ")", x.output(0, i), -1 - i);
        }
        for (int i = 0; i < 200; i += 199) {
            Check.due("output(1, " + i + ")", x.output(1, i), 1 + i);
        }
        Sentence.of("Promise 13", "0 when there is none such.");
        int[] none = {MIN, -1, 200, 201, 256, MAX};
        for (int i : none) {
            Check.due("output(0, " + i + ")", x.output(0, i), 0);
        }
        for (int d : NO_DOMAINS) {
            Check.due("output(" + d + ", 0)", x.output(d, 0), 0);
        }
        x = Check.alone(Check.set(0, 5), Check.op(18, 0, 0, 0));
        Check.due("output(0, 0) before there is one", x.output(0, 0), 0);
        x.tick(2);
        Check.due("output(0, 0)", x.output(0, 0), 5);
        Check.due("output(0, 1), there is one alone", x.output(0, 1), 0);
        Check.due("output(1, 0), of the other", x.output(1, 0), 0);
    }

    /** All eight numbers of domain 1 are different ones, and those of domain 0 others. */
    private static SplitKernel different() {
        SplitKernel x = new SplitKernel(2);
        x.flow(1, 0, true);
        x.onFail(1, 2);
        Check.program(x, 1, Check.op(18, 0, 0, 0), Check.op(18, 0, 0, 0), Check.op(18, 0, 0, 0), Check.op(18, 0, 0, 0),
                Check.op(255, 0, 0, 0), Check.op(255, 0, 0, 0), Check.op(255, 0, 0, 0), Check.op(9, 0, 9, 0), Check.op(9, 0, 9, 0),
                Check.op(0, 0, 0, 0));
        x.slot(0, 1, 12);
        x.slot(0, 0, 2);
        x.seal();
        x.tick(14);
        x.input(1, 5);
        x.input(1, 6);
        return x;
    }

    private static void of() {
        SplitKernel x = different();
        String[] words = {"Of a domain: what = 0 its place", "1 its state", "2 inputs that wait", "3 outputs", "4 fails",
            "5 steps that it made", "6 ticks of its slots", "7 1 if it reigns, else 0."};
        int[] of1 = {9, 1, 2, 4, 3, 9, 12, 1};
        int[] of0 = {0, 2, 0, 0, 1, 1, 2, 0};
        for (int what = 0; what < 8; what++) {
            Sentence.of("Promise 12", words[what]);
            Check.due("of(1, " + what + ")", x.of(1, what), of1[what]);
            Check.due("of(0, " + what + ")", x.of(0, what), of0[what]);
            Check.due("of(1, " + what + ") of a new one", new SplitKernel(2).of(1, what), 0);
        }
        Sentence.of("Promise 12", "NONE when there is no such domain");
        for (int d : NO_DOMAINS) {
            for (int what = 0; what < 8; what++) {
                Check.due("of(" + d + ", " + what + ")", x.of(d, what), -1);
            }
        }
        Sentence.of("Promise 12", "or for others.");
        int[] others = {MIN, -1, 8, 9, 15, 255, MAX};
        for (int what : others) {
            Check.due("of(1, " + what + ")", x.of(1, what), -1);
        }
    }

    private static void atOfAnyKind() {
        SplitKernel x = new SplitKernel(6);
        x.flow(3, 5, true);
        x.flow(5, 3, true);
        x.channel(3, 5, false, 4);
        x.channel(5, 3, true, 1);
        Sentence.of("Promise 14", "Of a channel: what = 0 from");
        Check.due("at(0, 0)", x.at(0, 0), 3);
        Check.due("at(1, 0)", x.at(1, 0), 5);
        Sentence.of("Promise 14", "1 to");
        Check.due("at(0, 1)", x.at(0, 1), 5);
        Check.due("at(1, 1)", x.at(1, 1), 3);
        Sentence.of("Promise 14", "2 1 for a board, else 0");
        Check.due("at(0, 2)", x.at(0, 2), 0);
        Check.due("at(1, 2)", x.at(1, 2), 1);
        Sentence.of("Promise 14", "3 its size");
        Check.due("at(0, 3)", x.at(0, 3), 4);
        Check.due("at(1, 3)", x.at(1, 3), 1);
    }

    /** Domain 0 sends three messages in each of its slots, domain 1 takes one in each of its own. */
    private static SplitKernel sending() {
        SplitKernel x = Check.pair(false, 4);
        Check.program(x, 0, Check.set(1, 1), Check.op(14, 0, 0, 1), Check.op(14, 0, 0, 1), Check.op(14, 0, 0, 1), Check.op(9, 0, 1, 0));
        Check.program(x, 1, Check.op(15, 0, 0, 0), Check.op(9, 0, 0, 0));
        x.slot(0, 0, 4);
        x.slot(0, 1, 2);
        x.seal();
        return x;
    }

    private static void dueAt(SplitKernel x, int what, int... due) {
        for (int i = 0; i < due.length; i++) {
            x.tick(6);
            Check.due("at(0, " + what + ") after " + (i + 1) + " rounds", x.at(0, what), due[i]);
        }
    }

    private static void atOfQueue() {
        Sentence.of("Promise 14", "4 messages that are there to be taken");
        dueAt(sending(), 4, 2, 2, 2);
        SplitKernel x = sending();
        x.tick(4);
        Check.due("at(0, 4), before the receiver's slot", x.at(0, 4), 0);

        Sentence.of("Promise 14", "5 those that wait");
        dueAt(sending(), 5, 0, 0);
        x = sending();
        x.tick(2);
        Check.due("at(0, 5), after one was sent", x.at(0, 5), 1);
        x.tick(2);
        Check.due("at(0, 5), after three", x.at(0, 5), 3);

        Sentence.of("Promise 14", "6 those that were lost, not being taken");
        dueAt(sending(), 6, 0, 2, 4, 6);

        Sentence.of("Promise 14", "(all for a queue; 0 for a board)");
        x = writing();
        x.tick(100);
        for (int what = 4; what <= 6; what++) {
            Check.due("at(0, " + what + ") of a board", x.at(0, what), 0);
        }
    }

    /** Domain 0 writes a board twice in each of its slots but the first, at the times 11, 13, 20, 22 .. */
    private static SplitKernel writing() {
        SplitKernel x = Check.pair(true, 2);
        Check.program(x, 0, Check.op(21, 0, 0, 0), Check.set(1, 1), Check.op(16, 0, 0, 0), Check.set(1, 2), Check.op(16, 0, 0, 0),
                Check.op(9, 0, 1, 0));
        x.slot(0, 0, 5);
        x.slot(0, 1, 4);
        x.seal();
        return x;
    }

    private static void atOfBoard() {
        Sentence.of("Promise 14", "7 how often the board was written");
        SplitKernel x = writing();
        int[] writes = {0, 1, 2, 2, 3, 4};
        int[] ages = {-1, 1, 1, 7, 1, 4};
        int[] ticks = {10, 1, 2, 6, 1, 5};
        for (int i = 0; i < ticks.length; i++) {
            x.tick(ticks[i]);
            Check.due("at(0, 7) at " + x.told(0), x.at(0, 7), writes[i]);
        }
        x = sending();
        x.tick(100);
        Check.due("at(0, 7) of a queue", x.at(0, 7), 0);

        Sentence.of("Promise 14", "8 its age (NONE before; 0 for a queue).");
        Check.due("at(0, 8) of a queue", x.at(0, 8), 0);
        Check.due("at(0, 8) of a queue in which nothing was sent", Check.pair(false, 1).at(0, 8), 0);
        Check.due("at(0, 8) of a board before sealing", Check.pair(true, 1).at(0, 8), -1);
        x = writing();
        for (int i = 0; i < ticks.length; i++) {
            x.tick(ticks[i]);
            Check.due("at(0, 8) at " + x.told(0), x.at(0, 8), ages[i]);
        }
    }

    private static void atOfNone() {
        Sentence.of("Promise 14", "NONE when there is no such channel");
        SplitKernel x = new SplitKernel(2);
        x.flow(0, 1, true);
        for (int many = 0; many <= 12; many++) {
            int[] none = {MIN, -1, many, 12, 13, MAX};
            for (int channel : none) {
                Check.due("at(" + channel + ", 3) of " + many, x.at(channel, 3), -1);
            }
            Check.due("at(last, 3) of " + many, x.at(many - 1, 3), many == 0 ? -1 : 4);
            x.channel(0, 1, many % 2 == 0, 4);
        }
        Sentence.of("Promise 14", "or for others.");
        int[] others = {MIN, -1, 9, 10, 255, MAX};
        for (int what : others) {
            Check.due("at(0, " + what + ") of a board", x.at(0, what), -1);
            Check.due("at(1, " + what + ") of a queue", x.at(1, what), -1);
        }
    }

    private static void told() {
        SplitKernel x = new SplitKernel(5);
        Sentence.of("Promise 15", "7 channels");
        x.flow(4, 3, true);
        for (int i = 0; i <= 13; i++) {
            Check.due("told(7)", x.told(7), Math.min(i, 12));
            x.channel(4, 3, false, 1);
        }
        Sentence.of("Promise 15", "8 domains");
        Check.due("told(8)", x.told(8), 5);
        Sentence.of("Promise 15", "9 1 when sealed, else 0.");
        Check.due("told(9)", x.told(9), 0);
        x.seal();
        Check.due("told(9) after a seal() that was refused", x.told(9), 0);
        x.slot(0, 4, 7);
        Check.due("told(9)", x.told(9), 0);
        x.seal();
        Check.due("told(9)", x.told(9), 1);
        Sentence.of("Promise 15", "What = 0 the time");
        Check.due("told(0)", x.told(0), 0);
        x.tick(1);
        Check.due("told(0)", x.told(0), 1);
        x.tick(200);
        Check.due("told(0), ticks without steps too", x.told(0), 201);
        Sentence.of("Promise 15", "1 actions");
        Check.due("told(1), one step", x.told(1), 1);
        x.input(0, 1);
        Check.due("told(1), and an input", x.told(1), 2);
        Sentence.of("Promise 15", "NONE for others.");
        int[] others = {MIN, -1, 10, 11, 255, MAX};
        for (int what : others) {
            Check.due("told(" + what + ")", x.told(what), -1);
            Check.due("told(" + what + ") of a new one", new SplitKernel(2).told(what), -1);
        }
    }

    /** Domain 1 reigns and asks for schedule 2 at its second step; 2 has twelve slots, of 1 .. 12 ticks. */
    private static SplitKernel asking() {
        SplitKernel x = new SplitKernel(2);
        x.flow(1, 0, true);
        Check.program(x, 0, Check.op(0, 0, 0, 0));
        Check.program(x, 1, Check.op(9, 0, 1, 0), Check.op(23, 2, 0, 0), Check.op(0, 0, 0, 0));
        x.slot(0, 1, 20);
        for (int i = 0; i < 12; i++) {
            x.slot(2, i % 2, i + 1);
        }
        return x;
    }

    private static void toldOfSlots() {
        Sentence.of("Promise 15", "2 which domain's slot the next tick is of (NONE while not sealed)");
        SplitKernel x = asking();
        Check.due("told(2) before sealing", x.told(2), -1);
        x.seal();
        Check.due("told(2)", x.told(2), 1);
        dueOfSlots(2, 1, 0, 1);
        Sentence.of("Promise 15", "3 the slot's number");
        dueOfSlots(3, 0, 0, 11);
        Sentence.of("Promise 15", "4 its schedule");
        dueOfSlots(4, 0, 2, 2);
        Sentence.of("Promise 15", "5 ticks of it that are left");
        dueOfSlots(5, 1, 1, 12);
        x.tick(1);
        Check.due("told(5) in the midst of a slot", x.told(5), 19);
        Sentence.of("Promise 15", "6 the schedule that is asked for");
        Check.due("told(6) at first", x.told(6), 0);
        x.tick(1);
        Check.due("told(6) when it was asked for", x.told(6), 2);
        dueOfSlots(6, 2, 2, 2);
    }

    /** What is told before the last tick of schedule 0, in the first slot of schedule 2 and in its last one. */
    private static void dueOfSlots(int what, int before, int first, int last) {
        SplitKernel x = asking();
        x.seal();
        x.tick(19);
        Check.due("told(" + what + ") at 19", x.told(what), before);
        x.tick(1);
        Check.due("told(" + what + ") at 20", x.told(what), first);
        x.tick(66);
        Check.due("told(" + what + ") at 86", x.told(what), last);
        x.tick(12);
        Check.due("told(" + what + ") at 98", x.told(what), first);
    }

    private static void action() {
        SplitKernel x = new SplitKernel(3);
        int odd = Check.op(200, 1, 2, 250);
        Check.program(x, 2, Check.set(1, -3), odd);
        x.onFail(2, 2);
        x.slot(0, 1, 2);
        x.slot(0, 2, 4);
        x.seal();
        x.input(2, MIN);
        x.tick(5);
        x.input(1, 77);
        String[] words = {"Of action i: what = 0 its domain", "1 1 for an input, 0 for a step", "2 its time",
            "3 the input, or the instruction that was done (0 when the place was behind the program)."};
        int[][] rows = {{2, 1, 2, 2, 2, 1}, {1, 0, 0, 0, 0, 1}, {0, 0, 2, 3, 4, 5}, {MIN, 0, Check.set(1, -3), odd, 0, 77}};
        for (int what = 0; what < 4; what++) {
            Sentence.of("Promise 16", words[what]);
            for (int i = 0; i < 6; i++) {
                Check.due("action(" + i + ", " + what + ")", x.action(i, what), rows[what][i]);
            }
        }
        Sentence.of("Promise 16", "0 when there is none such");
        int[] none = {MIN, -1, 6, 7, 3000, MAX};
        for (int i : none) {
            for (int what = 0; what < 4; what++) {
                Check.due("action(" + i + ", " + what + ")", x.action(i, what), 0);
            }
        }
        Check.due("action(0, 0) of a new one", new SplitKernel(2).action(0, 0), 0);
        Sentence.of("Promise 16", "or for others.");
        int[] others = {MIN, -1, 4, 5, MAX};
        for (int what : others) {
            Check.due("action(5, " + what + ")", x.action(5, what), 0);
        }
    }
}
