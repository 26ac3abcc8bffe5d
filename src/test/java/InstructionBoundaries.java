/** The terms of instructions: a test for each clause of theirs. */
final class InstructionBoundaries {
    private static final int MAX = Integer.MAX_VALUE;
    private static final int MIN = Integer.MIN_VALUE;

    private InstructionBoundaries() {
    }

    static void all() {
        bytes();
        placeGoesOn();
        stop();
        constants();
        copies();
        arithmetic();
        less();
        jumps();
        loadAndStore();
        send();
        sendWhenFull();
        take();
        writeAndSee();
        output();
        inputs();
        time();
        givenAway();
        look();
        ask();
        ticksLeft();
        others();
    }

    /** Domain 0 alone, with these in the registers 1 and 2, before its step with the instruction. */
    private static SplitKernel with(int r1, int r2, int instruction) {
        SplitKernel x = Check.alone(Check.op(19, 1, 0, 0), Check.op(19, 2, 0, 0), instruction);
        x.input(0, r1);
        x.input(0, r2);
        x.tick(2);
        return x;
    }

    /** What register 0 becomes by an operation on these two. */
    private static int computed(int operation, int b, int c) {
        SplitKernel x = with(b, c, Check.op(operation, 0, 1, 2));
        x.tick(1);
        Check.due("r[1]", x.register(0, 1), b);
        Check.due("r[2]", x.register(0, 2), c);
        Check.due("r[7]", x.register(0, 7), 1);
        Check.due("place", x.of(0, 0), 3);
        Check.due("fails", x.of(0, 4), 0);
        return x.register(0, 0);
    }

    private static void bytes() {
        Sentence.of("Terms", "AN INSTRUCTION is a number: its lowest byte the operation, then a, b, c, a byte each, the highest one");
        SplitKernel x = Check.alone(0x09030301, 0xFF020303, 0xF8FBFA02, 0x01FFFF09);
        x.tick(1);
        Check.due("a constant of 3 + 256 * 9", x.register(0, 3), 3 + 256 * 9);
        x.tick(1);
        Check.due("r[2] + r[255 mod 8]", x.register(0, 3), 0);
        x.tick(2);
        Check.due("place 255", x.of(0, 0), 255);

        Sentence.of("Terms", "r[a] the register a mod 8, likewise b, c");
        int[] same = {1, 9, 121, 129, 249};
        for (int a : same) {
            for (int c : same) {
                x = Check.alone(Check.set(a, 5), Check.set(2, 7), Check.op(4, a + 3, 2 | (c & 248), c), Check.op(18, a, 0, 0));
                x.tick(4);
                Check.due("register 1 as a = " + a, x.register(0, 1), 5);
                Check.due("register 4 by c = " + c, x.register(0, 4), 2);
                Check.due("output by a = " + a, x.output(0, 0), 5);
            }
        }
        for (int i = 0; i < 256; i++) {
            x = Check.alone(Check.set(i, 3));
            x.tick(1);
            Check.due("register " + i % 8 + " as a = " + i, x.register(0, i % 8), 3);
        }
    }

    private static void placeGoesOn() {
        Sentence.of("Terms", "the place goes on by one if nothing else is told");
        SplitKernel x = new SplitKernel(2);
        x.flow(0, 1, true);
        x.flow(1, 0, true);
        x.channel(0, 1, false, 1);
        x.channel(1, 0, false, 1);
        x.channel(0, 1, true, 1);
        x.channel(1, 0, true, 1);
        int[] channels = {0, 1, 2, 3};
        x.code(0, Check.set(1, 1));
        for (int operation = 1; operation <= 24; operation++) {
            if (operation < 9 || operation > 11) {
                int a = operation >= 14 && operation <= 17 ? channels[operation - 14] : operation == 23 ? 0 : 2;
                x.code(0, Check.op(operation, a, 0, 1));
            }
        }
        x.slot(0, 0, 1);
        x.seal();
        for (int i = 1; i <= 22; i++) {
            x.tick(1);
            Check.due("place after instruction " + x.action(i - 1, 3), x.of(0, 0), i);
        }
        Check.due("fails", x.of(0, 4), 0);
    }

    private static void stop() {
        Sentence.of("Terms", "0 it stops (the place stays).");
        SplitKernel x = Check.alone(Check.set(0, 1), Check.op(0, 255, 255, 255), Check.set(0, 2));
        Check.due("tick(20)", x.tick(20), 2);
        Check.due("state", x.of(0, 1), 1);
        Check.due("place", x.of(0, 0), 1);
        Check.due("fails", x.of(0, 4), 0);
        Check.due("register", x.register(0, 0), 1);
        x = Check.aloneOnFail(1, 0);
        Check.due("tick(200), what a fail does being nothing to it", x.tick(200), 1);
        Check.due("place at the first instruction", x.of(0, 0), 0);
    }

    private static void constants() {
        Sentence.of("Terms", "1 r[a] becomes b + 256 c, less 65536 when that is 32768 or more.");
        int[][] cases = {{0, 0, 0}, {1, 0, 1}, {255, 0, 255}, {0, 1, 256}, {255, 127, 32767}, {0, 128, -32768}, {1, 128, -32767},
            {255, 255, -1}, {0, 255, -256}, {254, 127, 32766}};
        for (int[] it : cases) {
            SplitKernel x = Check.alone(Check.op(1, 0, it[0], it[1]));
            x.tick(1);
            Check.due("b = " + it[0] + ", c = " + it[1], x.register(0, 0), it[2]);
        }
    }

    private static void copies() {
        Sentence.of("Terms", "2 r[a] becomes r[b].");
        int[] values = {MIN, -1, 0, 1, MAX};
        for (int v : values) {
            Check.due("of " + v, computed(2, v, 5), v);
        }
    }

    private static void arithmetic() {
        Sentence.of("Terms", "3, 4, 5, 6, 7: r[a] becomes r[b] + r[c], r[b] - r[c], r[b] r[c], their bits in both, in one alone.");
        Check.due("MAX + 1", computed(3, MAX, 1), MIN);
        Check.due("MIN + -1", computed(3, MIN, -1), MAX);
        Check.due("MIN + MIN", computed(3, MIN, MIN), 0);
        Check.due("3 + -5", computed(3, 3, -5), -2);
        Check.due("MIN - 1", computed(4, MIN, 1), MAX);
        Check.due("MAX - -1", computed(4, MAX, -1), MIN);
        Check.due("0 - MIN", computed(4, 0, MIN), MIN);
        Check.due("3 - 5", computed(4, 3, 5), -2);
        Check.due("MAX MAX", computed(5, MAX, MAX), 1);
        Check.due("MIN -1", computed(5, MIN, -1), MIN);
        Check.due("65536 65536", computed(5, 65536, 65536), 0);
        Check.due("46341 46341", computed(5, 46341, 46341), -2147479015);
        Check.due("3 -5", computed(5, 3, -5), -15);
        Check.due("MIN, MAX in both", computed(6, MIN, MAX), 0);
        Check.due("-1, MIN in both", computed(6, -1, MIN), MIN);
        Check.due("12, 10 in both", computed(6, 12, 10), 8);
        Check.due("MIN, MAX in one alone", computed(7, MIN, MAX), -1);
        Check.due("-1, -1 in one alone", computed(7, -1, -1), 0);
        Check.due("12, 10 in one alone", computed(7, 12, 10), 6);
    }

    private static void less() {
        Sentence.of("Terms", "8 r[a] becomes 1 if r[b] is less than r[c], else 0.");
        int[] values = {MIN, MIN + 1, -1, 0, 1, MAX - 1, MAX};
        for (int b = 0; b < values.length; b++) {
            for (int c = 0; c < values.length; c++) {
                Check.due(values[b] + " and " + values[c], computed(8, values[b], values[c]), b < c ? 1 : 0);
            }
        }
    }

    /** Where it is after a jump in place 2, by a register of 1. */
    private static void dueJump(int operation, int r1, int b, int place) {
        SplitKernel x = with(r1, 5, Check.op(operation, 1, b, 255));
        x.tick(1);
        Check.due("place after " + operation + " to " + b + " by " + r1, x.of(0, 0), place);
        Check.due("fails", x.of(0, 4), 0);
        Check.due("register", x.register(0, 1), r1);
    }

    private static void jumps() {
        int[] places = {0, 1, 2, 3, 4, 63, 64, 127, 128, 255};
        int[] values = {MIN, -1, 0, 1, 256, MAX};
        for (int b : places) {
            for (int v : values) {
                Sentence.of("Terms", "9 the place becomes b");
                dueJump(9, v, b, b);
                Sentence.of("Terms", "10 if r[a] is 0");
                dueJump(10, v, b, v == 0 ? b : 3);
                Sentence.of("Terms", "11 if r[a] is not 0.");
                dueJump(11, v, b, v != 0 ? b : 3);
            }
        }
    }

    private static void loadAndStore() {
        int[] edges = {0, 1, 30, 31};
        for (int k : edges) {
            Sentence.of("Terms", "13 cell r[b] becomes r[a].");
            SplitKernel x = Check.alone(Check.op(19, 1, 0, 0), Check.op(19, 2, 0, 0), Check.op(13, 1, 2, 0), Check.op(12, 3, 2, 0),
                    Check.op(12, 2, 2, 0));
            x.input(0, MIN);
            x.input(0, k);
            x.tick(3);
            for (int other = 0; other < 32; other++) {
                Check.due("cell " + other, x.cell(0, other), other == k ? MIN : 0);
            }
            Sentence.of("Terms", "12 r[a] becomes cell r[b]");
            x.tick(1);
            Check.due("r[3] by cell " + k, x.register(0, 3), MIN);
            x.tick(1);
            Check.due("r[2] by cell " + k + " that it told itself", x.register(0, 2), MIN);
            Check.due("fails", x.of(0, 4), 0);
        }
    }

    /**
     * Domain 0 has 100 .. 131 in its cells and has sent so many from there on, with its 198th step; with the next one it
     * sends them again, in the same slot. Domain 1 takes, from the tick 220 on, to a cell.
     */
    private static SplitKernel sent(int first, int words, int to) {
        SplitKernel x = Check.pair(false, 1);
        Check.program(x, 0, Check.set(3, 1), Check.set(2, 100), Check.op(13, 2, 1, 0), Check.op(3, 1, 1, 3), Check.op(3, 2, 2, 3),
                Check.set(4, 32), Check.op(8, 5, 1, 4), Check.op(11, 5, 2, 0));
        Check.program(x, 0, Check.set(1, first), Check.set(2, words), Check.set(7, 9), Check.op(14, 0, 1, 2), Check.op(14, 0, 1, 2),
                Check.op(0, 0, 0, 0));
        Check.program(x, 1, Check.set(1, to), Check.op(15, 0, 1, 0), Check.op(15, 0, 1, 0), Check.op(0, 0, 0, 0));
        for (int i = 0; i < 11; i++) {
            x.slot(0, 0, 20);
        }
        x.slot(0, 1, 20);
        x.seal();
        x.tick(198);
        return x;
    }

    private static void send() {
        Sentence.of("Terms", "14 the r[c] cells from cell r[b] on are sent on channel a: r[7] becomes 1");
        for (int words = 1; words <= 4; words++) {
            int[] firsts = {0, 1, 31 - words, 32 - words};
            for (int first : firsts) {
                SplitKernel x = sent(first, words, 0);
                Check.due("messages that wait", x.at(0, 5), 1);
                Check.due("r[7]", x.register(0, 7), 1);
                Check.due("fails", x.of(0, 4), 0);
                Check.due("cell " + first + " of the sender", x.cell(0, first), 100 + first);
                x.tick(24);
                for (int k = 0; k < 5; k++) {
                    Check.due("cell " + k + " of the receiver", x.cell(1, k), k < words ? 100 + first + k : 0);
                }
            }
        }
    }

    private static void sendWhenFull() {
        Sentence.of("Terms", "0, and nothing is sent, when as many were sent in this slot as may be.");
        SplitKernel x = sent(0, 2, 0);
        Check.due("r[7] after the first", x.register(0, 7), 1);
        int place = x.of(0, 0);
        x.tick(1);
        Check.due("r[7] after the second", x.register(0, 7), 0);
        Check.due("messages that wait", x.at(0, 5), 1);
        Check.due("place", x.of(0, 0), place + 1);
        Check.due("fails", x.of(0, 4), 0);
        Check.due("state", x.of(0, 1), 0);
    }

    private static void take() {
        for (int words = 1; words <= 4; words++) {
            int[] tos = {0, 1, 31 - words, 32 - words};
            for (int to : tos) {
                Sentence.of("Terms", "15 the next message of channel a that is there to be taken comes into the cells from cell r[b] on");
                SplitKernel x = sent(2, words, to);
                x.tick(24);
                for (int k = 0; k < 32; k++) {
                    boolean isTaken = k >= to && k < to + words;
                    Check.due("cell " + k + " of the receiver", x.cell(1, k), isTaken ? 102 + k - to : 0);
                }
                Check.due("messages to take", x.at(0, 4), 0);
                Sentence.of("Terms", "r[7] becomes how many ints");
                Check.due("r[7]", x.register(1, 7), words);
                Sentence.of("Terms", "-1 when there is none.");
                x.tick(1);
                Check.due("r[7]", x.register(1, 7), -1);
                Check.due("cell " + to + " of the receiver", x.cell(1, to), 102);
                Check.due("place", x.of(1, 0), 3);
                Check.due("fails", x.of(1, 4), 0);
            }
        }
    }

    private static void writeAndSee() {
        for (int size = 1; size <= 4; size++) {
            int[] cells = {0, 1, 31 - size, 32 - size};
            for (int first : cells) {
                SplitKernel x = Check.pair(true, size);
                Check.program(x, 0, Check.set(1, first), Check.set(2, first + size - 1), Check.set(3, 77), Check.op(13, 3, 2, 0),
                        Check.set(7, 9), Check.op(16, 0, 1, 0), Check.op(13, 7, 2, 0));
                Check.program(x, 1, Check.set(1, first), Check.op(17, 0, 1, 0));
                x.slot(0, 0, 7);
                x.slot(0, 1, 2);
                x.seal();
                x.tick(9);
                Sentence.of("Terms", "16 the cells from cell r[b] on are written on board a, as many as it shows.");
                Check.due("writes", x.at(0, 7), 1);
                Check.due("r[7] of the writer", x.register(0, 7), 9);
                Check.due("fails of the writer", x.of(0, 4), 0);
                Check.due("the last cell on the board of " + size + " from " + first, x.cell(1, first + size - 1), 77);
                Sentence.of("Terms", "17 what board a shows comes into the cells from cell r[b] on");
                for (int k = 0; k < 32; k++) {
                    Check.due("cell " + k + " of the one that sees", x.cell(1, k), k == first + size - 1 ? 77 : 0);
                }
                Check.due("fails of the one that sees", x.of(1, 4), 0);
                Sentence.of("Terms", "r[7] becomes its age.");
                Check.due("r[7] of the one that sees", x.register(1, 7), 3);
            }
        }
        SplitKernel x = Check.pair(true, 4);
        Check.program(x, 1, Check.op(17, 0, 0, 0));
        x.slot(0, 1, 1);
        x.seal();
        x.tick(1);
        Check.due("r[7] before it was written", x.register(1, 7), -1);
    }

    private static void output() {
        Sentence.of("Terms", "18 r[a] is an output.");
        int[] values = {MIN, -1, 0, MAX};
        for (int v : values) {
            SplitKernel x = with(v, 5, Check.op(18, 1, 2, 2));
            x.tick(1);
            Check.due("outputs", x.of(0, 3), 1);
            Check.due("the output", x.output(0, 0), v);
            Check.due("register", x.register(0, 1), v);
        }
    }

    private static void inputs() {
        Sentence.of("Terms", "19 r[a] becomes the first input, which is taken, r[7] becomes 1");
        SplitKernel x = Check.alone(Check.op(19, 1, 0, 0), Check.op(19, 7, 0, 0), Check.op(19, 15, 0, 0));
        x.input(0, MIN);
        x.input(0, 55);
        x.tick(1);
        Check.due("r[1]", x.register(0, 1), MIN);
        Check.due("r[7]", x.register(0, 7), 1);
        Check.due("inputs that wait", x.of(0, 2), 1);
        x.tick(1);
        Check.due("r[7], being r[a] too", x.register(0, 7), 1);
        Check.due("inputs that wait", x.of(0, 2), 0);

        Sentence.of("Terms", "without one r[7] becomes 0.");
        x.tick(1);
        Check.due("r[7], being r[a] too", x.register(0, 7), 0);
        x = Check.alone(Check.set(1, 4), Check.set(7, 9), Check.op(19, 1, 0, 0));
        x.tick(3);
        Check.due("r[1] stays", x.register(0, 1), 4);
        Check.due("r[7]", x.register(0, 7), 0);
        Check.due("fails", x.of(0, 4), 0);
        Check.due("inputs that wait", x.of(0, 2), 0);
    }

    private static void time() {
        Sentence.of("Terms", "20 r[a] becomes the time.");
        SplitKernel x = new SplitKernel(2);
        Check.program(x, 0, Check.op(20, 1, 0, 0), Check.op(20, 2, 0, 0), Check.op(20, 3, 0, 0));
        x.slot(0, 0, 1);
        x.slot(0, 1, 20);
        x.seal();
        x.tick(200);
        Check.due("at the first tick", x.register(0, 1), 0);
        Check.due("at the next slot", x.register(0, 2), 21);
        Check.due("at the third slot", x.register(0, 3), 42);
    }

    private static void givenAway() {
        Sentence.of("Terms", "21 the rest of the slot is given away.");
        for (int ticks = 1; ticks <= 20; ticks++) {
            SplitKernel x = new SplitKernel(2);
            Check.program(x, 0, Check.op(21, 0, 0, 0), Check.op(9, 0, 0, 0));
            Check.program(x, 1, Check.op(9, 0, 0, 0));
            x.slot(0, 0, ticks);
            x.slot(0, 1, 1);
            x.seal();
            Check.due("steps of a slot of " + ticks, x.tick(ticks), 1);
            Check.due("state", x.of(0, 1), 0);
            Check.due("place", x.of(0, 0), 1);
            Check.due("step of the other", x.tick(1), 1);
            Check.due("steps of the next slot of " + ticks, x.tick(ticks), Math.min(ticks, 2));
            Check.due("ticks of it", x.of(0, 6), 2 * ticks);
        }
    }

    private static void look() {
        Sentence.of("Terms", "22 r[a] becomes cell r[c] of domain b.");
        for (int k = 0; k < 32; k += 31) {
            SplitKernel x = new SplitKernel(6);
            x.flow(5, 0, true);
            Check.program(x, 5, Check.set(1, k), Check.set(2, 50), Check.op(13, 2, 1, 0));
            Check.program(x, 0, Check.set(1, k), Check.set(2, 60), Check.op(13, 2, 1, 0), Check.op(22, 3, 5, 1), Check.op(22, 4, 0, 1),
                    Check.op(22, 1, 5, 1));
            x.slot(0, 5, 3);
            x.slot(0, 0, 6);
            x.seal();
            x.tick(9);
            Check.due("cell " + k + " of the other", x.register(0, 3), 50);
            Check.due("cell " + k + " of itself", x.register(0, 4), 60);
            Check.due("cell " + k + " in place of the one that told it", x.register(0, 1), 50);
            Check.due("fails", x.of(0, 4), 0);
        }
    }

    private static void ask() {
        Sentence.of("Terms", "23 schedule a is asked for.");
        for (int schedule = 0; schedule < 3; schedule++) {
            SplitKernel x = new SplitKernel(2);
            x.flow(0, 1, true);
            Check.program(x, 0, Check.op(23, (schedule + 1) % 3, 0, 0), Check.op(23, schedule, 255, 255));
            for (int s = 0; s < 3; s++) {
                x.slot(s, 0, s + 2);
            }
            x.seal();
            x.tick(2);
            Check.due("schedule asked for", x.told(6), schedule);
            Check.due("schedule that begins", x.told(4), schedule);
            Check.due("its ticks", x.told(5), schedule + 2);
            Check.due("fails", x.of(0, 4), 0);
        }
    }

    private static void ticksLeft() {
        Sentence.of("Terms", "24 r[a] becomes how many ticks are left of the slot, with this one.");
        int[] sizes = {1, 2, 20};
        for (int ticks : sizes) {
            SplitKernel x = new SplitKernel(2);
            for (int i = 0; i < 21; i++) {
                x.code(0, Check.op(24, 3, 0, 0));
            }
            x.slot(0, 0, ticks);
            x.seal();
            for (int i = 0; i < 21; i++) {
                x.tick(1);
                Check.due("r[3] at tick " + i % ticks + " of " + ticks, x.register(0, 3), ticks - i % ticks);
            }
        }
    }

    private static void others() {
        Sentence.of("Terms", "Others FAIL.");
        for (int operation = 0; operation < 256; operation++) {
            // Channels and domain 9 are none: these fail by themselves.
            boolean fails = operation >= 14 && operation <= 17 || operation == 22 || operation == 23 || operation >= 25;
            SplitKernel x = Check.alone(Check.op(operation, 9, 9, 9));
            x.tick(1);
            Check.due("fails of " + operation, x.of(0, 4), fails ? 1 : 0);
            Check.due("state after " + operation, x.of(0, 1), fails ? 2 : operation == 0 ? 1 : 0);
        }
    }
}
