/** The terms of domains, channels, schedules and ticks: a test for each clause of theirs. */
final class TermBoundaries {
    private static final int MAX = Integer.MAX_VALUE;
    private static final int MIN = Integer.MIN_VALUE;

    private TermBoundaries() {
    }

    static void all() {
        domains();
        policy();
        reigning();
        registersAndCells();
        programs();
        rows();
        states();
        atFirst();
        channels();
        queueSizes();
        messages();
        waiting();
        boards();
        schedules();
        askedFor();
        slotBegins();
        stepOrNone();
        time();
        Sentence.of("Terms", "The constants: NONE = -1: There is none, or nothing is done.");
        Check.due("NONE", SplitKernel.NONE, -1);
    }

    private static void domains() {
        Sentence.of("Terms", "DOMAINS are 0 .. d - 1.");
        for (int n = 2; n <= 6; n++) {
            SplitKernel x = new SplitKernel(n);
            Check.due("state of -1", x.of(-1, 1), -1);
            Check.due("state of 0", x.of(0, 1), 0);
            Check.due("state of " + (n - 1), x.of(n - 1, 1), 0);
            Check.due("state of " + n, x.of(n, 1), -1);
        }
    }

    private static void policy() {
        Sentence.of("Terms", "The POLICY tells for each two whether what is of the first may flow to the second");
        for (int a = 0; a < 6; a++) {
            for (int b = 0; b < 6; b++) {
                SplitKernel x = new SplitKernel(6);
                x.flow(a, b, true);
                for (int from = 0; from < 6; from++) {
                    for (int to = 0; to < 6; to++) {
                        boolean may = a != b && from == a && to == b;
                        Check.due("channel(" + from + ", " + to + ")", x.channel(from, to, false, 1), may ? 0 : -1);
                    }
                }
            }
        }
        Sentence.of("Terms", "to itself always.");
        for (int d = 0; d < 6; d++) {
            SplitKernel x = new SplitKernel(6);
            x.flow(d, d, false);
            Check.program(x, d, Check.op(22, 0, d, 0));
            x.slot(0, d, 1);
            x.seal();
            x.tick(1);
            Check.due("fails of " + d + " that looks at itself", x.of(d, 4), 0);
            Check.due("purge(" + d + "), its own step", x.purge(d), 1);
        }
    }

    private static void reigning() {
        Sentence.of("Terms", "A domain REIGNS if it may flow to all.");
        for (int n = 2; n <= 6; n++) {
            for (int lacking = 0; lacking <= n; lacking++) {
                SplitKernel x = new SplitKernel(n);
                for (int b = 0; b < n; b++) {
                    x.flow(n - 1, b, b != lacking);
                }
                // The flow to itself can't lack.
                boolean reigns = lacking >= n - 1;
                Check.due((n - 1) + " of " + n + " reigns, lacking " + lacking, x.of(n - 1, 7), reigns ? 1 : 0);
                Check.due("0 of " + n + " reigns", x.of(0, 7), 0);
            }
        }
    }

    private static void registersAndCells() {
        Sentence.of("Terms", "A domain has 8 REGISTERS (ints)");
        SplitKernel x = Check.alone(Check.op(19, 0, 0, 0), Check.op(19, 6, 0, 0), Check.op(2, 7, 0, 0), Check.op(2, 8, 6, 0));
        x.input(0, MIN);
        x.input(0, MAX);
        x.tick(3);
        Check.due("register 0", x.register(0, 0), MIN);
        Check.due("register 6", x.register(0, 6), MAX);
        Check.due("register 7", x.register(0, 7), MIN);
        x.tick(1);
        Check.due("register 0, which is a of 8", x.register(0, 0), MAX);
        Check.due("register 8", x.register(0, 8), 0);

        Sentence.of("Terms", "32 CELLS of memory (ints)");
        x = Check.alone(Check.op(19, 0, 0, 0), Check.op(13, 0, 1, 0), Check.set(1, 31), Check.op(19, 0, 0, 0), Check.op(13, 0, 1, 0),
                Check.set(1, 32), Check.op(13, 0, 1, 0));
        x.input(0, MIN);
        x.input(0, MAX);
        x.tick(7);
        Check.due("cell 0", x.cell(0, 0), MIN);
        Check.due("cell 31", x.cell(0, 31), MAX);
        Check.due("state after cell 32", x.of(0, 1), 2);
    }

    private static void programs() {
        Sentence.of("Terms", "a PROGRAM of at most 64 instructions");
        SplitKernel x = new SplitKernel(2);
        for (int i = 1; i <= 66; i++) {
            Check.due("code " + i, x.code(0, Check.op(9, 0, 63, 0)), i <= 64 ? i : -1);
        }
        x.slot(0, 0, 1);
        x.seal();
        x.tick(200);
        Check.due("state, going round in the 64th", x.of(0, 1), 0);

        Sentence.of("Terms", "a PLACE in it");
        Check.due("place", x.of(0, 0), 63);
        Check.due("place of one that made no step", x.of(1, 0), 0);
    }

    private static void rows() {
        Sentence.of("Terms", "a row of at most 8 INPUTS that wait");
        SplitKernel x = Check.alone(Check.op(19, 0, 0, 0), Check.op(9, 0, 0, 0));
        for (int i = 1; i <= 9; i++) {
            Check.due("input " + i, x.input(0, i), i <= 8 ? i : -1);
        }
        for (int i = 1; i <= 8; i++) {
            x.tick(2);
            Check.due("input " + i + " that is taken", x.register(0, 0), i);
            Check.due("inputs that wait", x.of(0, 2), 8 - i);
        }
        Sentence.of("Terms", "a row of OUTPUTS");
        x = Check.alone(Check.op(24, 0, 0, 0), Check.op(18, 0, 0, 0), Check.op(9, 0, 0, 0));
        x.tick(6);
        Check.due("outputs", x.of(0, 3), 2);
        Check.due("the first one", x.output(0, 0), 20);
        Check.due("the second one", x.output(0, 1), 17);
    }

    private static void states() {
        Sentence.of("Terms", "and a STATE: 0 it goes on, 1 it has stopped, 2 it has FAILED.");
        SplitKernel x = new SplitKernel(3);
        Check.program(x, 0, Check.op(9, 0, 0, 0));
        Check.program(x, 1, Check.op(0, 0, 0, 0));
        for (int d = 0; d < 3; d++) {
            x.slot(0, d, 1);
        }
        x.seal();
        x.tick(9);
        int[] steps = {3, 1, 1};
        for (int d = 0; d < 3; d++) {
            Check.due("state of " + d, x.of(d, 1), d);
            Check.due("steps of " + d, x.of(d, 5), steps[d]);
        }
    }

    private static void atFirst() {
        Sentence.of("Terms", "At first all is 0, all rows are empty.");
        SplitKernel x = new SplitKernel(6);
        x.slot(0, 5, 1);
        x.seal();
        for (int d = 0; d < 6; d++) {
            for (int k = 0; k < 8; k++) {
                Check.due("register(" + d + ", " + k + ")", x.register(d, k), 0);
                Check.due("of(" + d + ", " + k + ")", x.of(d, k), 0);
            }
            for (int k = 0; k < 32; k++) {
                Check.due("cell(" + d + ", " + k + ")", x.cell(d, k), 0);
            }
            Check.due("output(" + d + ", 0)", x.output(d, 0), 0);
        }
    }

    private static void channels() {
        Sentence.of("Terms", "CHANNELS, at most 12");
        SplitKernel x = new SplitKernel(6);
        for (int d = 1; d < 6; d++) {
            x.flow(0, d, true);
        }
        for (int i = 0; i < 14; i++) {
            Check.due("channel " + i, x.channel(0, i % 5 + 1, i % 2 == 0, 1), i < 12 ? i : -1);
        }
        Sentence.of("Terms", "go from one domain to another one to which it may flow, and are QUEUES or BOARDS, of a SIZE.");
        x = new SplitKernel(2);
        Check.due("channel(0, 1) without the flow", x.channel(0, 1, false, 2), -1);
        x.flow(0, 1, true);
        Check.due("channel(0, 0)", x.channel(0, 0, false, 2), -1);
        Check.due("a queue", x.channel(0, 1, false, 3), 0);
        Check.due("a board", x.channel(0, 1, true, 2), 1);
        int[][] due = {{0, 1, 0, 3}, {0, 1, 1, 2}};
        for (int i = 0; i < 2; i++) {
            for (int what = 0; what < 4; what++) {
                Check.due("at(" + i + ", " + what + ")", x.at(i, what), due[i][what]);
            }
        }
    }

    private static void queueSizes() {
        Sentence.of("Terms", "A QUEUE's size, 1 .. 4, is how many messages its sender can send in one slot");
        for (int size = 1; size <= 4; size++) {
            SplitKernel x = Check.pair(false, size);
            Check.program(x, 0, Check.set(1, 1), Check.op(14, 0, 0, 1), Check.op(9, 0, 1, 0));
            x.slot(0, 0, 19);
            x.slot(0, 0, 20);
            x.slot(0, 1, 1);
            x.seal();
            for (int i = 1; i <= 9; i++) {
                x.tick(2);
                Check.due("messages that wait after send " + i + " of size " + size, x.at(0, 5), Math.min(i, size));
                Check.due("r[7]", x.register(0, 7), i <= size ? 1 : 0);
            }
            x.tick(21);
            Check.due("messages that wait after one more slot", x.at(0, 5), 2 * size);
        }
    }

    private static void messages() {
        Sentence.of("Terms", "a MESSAGE is a row of 1 .. 4 ints.");
        for (int words = 0; words <= 5; words++) {
            SplitKernel x = Check.pair(false, 1);
            Check.program(x, 0, Check.set(1, words), Check.set(2, MAX >> 16), Check.op(13, 2, 0, 0), Check.set(3, 3), Check.op(13, 3, 3, 0),
                    Check.op(14, 0, 0, 1), Check.op(0, 0, 0, 0));
            Check.program(x, 1, Check.op(15, 0, 0, 0), Check.op(0, 0, 0, 0));
            x.slot(0, 0, 7);
            x.slot(0, 1, 2);
            x.seal();
            x.tick(9);
            boolean isOne = words >= 1 && words <= 4;
            Check.due("fails of a message of " + words, x.of(0, 4), isOne ? 0 : 1);
            Check.due("r[7] of the receiver", x.register(1, 7), isOne ? words : -1);
            Check.due("first int", x.cell(1, 0), isOne ? MAX >> 16 : 0);
            Check.due("fourth int", x.cell(1, 3), words == 4 ? 3 : 0);
        }
    }

    /** Domain 0 sends 1, 2, 3 and 4, one at every third step; domain 1 takes so many, one at each step. */
    private static SplitKernel fourSent(int takes) {
        SplitKernel x = Check.pair(false, 3);
        Check.program(x, 0, Check.set(1, 1), Check.op(13, 1, 0, 0), Check.op(14, 0, 0, 1));
        for (int v = 2; v <= 4; v++) {
            Check.program(x, 0, Check.set(2, v), Check.op(13, 2, 0, 0), Check.op(14, 0, 0, 1));
        }
        Check.program(x, 0, Check.op(0, 0, 0, 0));
        for (int i = 0; i < takes; i++) {
            Check.program(x, 1, Check.op(15, 0, 0, 0));
        }
        return x;
    }

    private static void waiting() {
        Sentence.of("Terms", "What is sent waits, in order, till the receiver's next slot begins");
        SplitKernel x = fourSent(4);
        x.slot(0, 1, 1);
        x.slot(0, 0, 9);
        x.slot(0, 1, 3);
        x.seal();
        x.tick(10);
        Check.due("r[7], nothing was sent yet", x.register(1, 7), -1);
        Check.due("messages that wait at the end of the sender's slot", x.at(0, 5), 3);
        for (int v = 1; v <= 3; v++) {
            x.tick(1);
            Check.due("the message taken as " + v, x.cell(1, 0), v);
            Check.due("messages that wait", x.at(0, 5), 0);
        }
        sentInOwnSlot();

        Sentence.of("Terms", "then it is the receiver's to take, in place of all that it had there and did not take.");
        x = fourSent(3);
        x.slot(0, 0, 9);
        x.slot(0, 1, 1);
        x.slot(0, 0, 4);
        x.slot(0, 1, 2);
        x.seal();
        x.tick(10);
        Check.due("the first message", x.cell(1, 0), 1);
        Check.due("messages to take", x.at(0, 4), 2);
        x.tick(4);
        Check.due("messages to take, still there in the sender's slot", x.at(0, 4), 2);
        x.tick(1);
        Check.due("the fourth message, in place of the second and third", x.cell(1, 0), 4);
        Check.due("messages lost", x.at(0, 6), 2);
        x.tick(1);
        Check.due("r[7] when all were taken", x.register(1, 7), -1);
        emptySlotClears();
    }

    /** What both have is apart: a message that comes while the receiver has others waits for a slot, not a take. */
    private static void sentInOwnSlot() {
        SplitKernel x = fourSent(2);
        x.slot(0, 0, 3);
        x.slot(0, 1, 1);
        x.slot(0, 0, 3);
        x.slot(0, 0, 3);
        x.slot(0, 1, 1);
        x.seal();
        x.tick(10);
        Check.due("messages that wait over two slots of the sender", x.at(0, 5), 2);
        Check.due("messages to take", x.at(0, 4), 0);
        x.tick(1);
        Check.due("the first of them", x.cell(1, 0), 2);
    }

    private static void emptySlotClears() {
        SplitKernel x = fourSent(1);
        x.slot(0, 0, 9);
        x.slot(0, 1, 1);
        x.slot(0, 1, 2);
        x.seal();
        x.tick(10);
        Check.due("messages to take", x.at(0, 4), 2);
        x.tick(1);
        Check.due("messages to take, none being sent for the next slot", x.at(0, 4), 0);
        Check.due("messages lost", x.at(0, 6), 2);
        x.tick(1);
        Check.due("messages lost, no slot begins", x.at(0, 6), 2);
    }

    private static void boards() {
        Sentence.of("Terms", "A BOARD's size, 1 .. 4, is how many ints it shows, at first 0");
        for (int size = 1; size <= 4; size++) {
            SplitKernel x = Check.pair(true, size);
            for (int d = 0; d < 2; d++) {
                Check.program(x, d, Check.set(2, 9 - d));
                for (int k = 0; k < 5; k++) {
                    Check.program(x, d, Check.set(1, k), Check.op(13, 2, 1, 0));
                }
            }
            Check.program(x, 0, Check.op(16, 0, 0, 0), Check.op(0, 0, 0, 0));
            Check.program(x, 1, Check.op(17, 0, 0, 0), Check.op(17, 0, 0, 0), Check.op(0, 0, 0, 0));
            x.slot(0, 1, 12);
            x.slot(0, 0, 12);
            x.seal();
            x.tick(12);
            for (int k = 0; k < 5; k++) {
                Check.due("cell " + k + " by a board of " + size + " at first", x.cell(1, k), k < size ? 0 : 8);
            }
            x.tick(13);
            for (int k = 0; k < 5; k++) {
                Check.due("cell " + k + " by a board of " + size, x.cell(1, k), k < size ? 9 : 8);
            }
        }
        ages();
    }

    private static void ages() {
        Sentence.of("Terms", "AGE is how many ticks ago it was written, -1 before.");
        SplitKernel x = Check.pair(true, 1);
        Check.program(x, 0, Check.op(16, 0, 0, 0), Check.op(21, 0, 0, 0), Check.op(9, 0, 0, 0));
        Check.program(x, 1, Check.op(17, 0, 0, 0), Check.op(9, 0, 0, 0));
        x.slot(0, 1, 2);
        x.slot(0, 0, 5);
        x.slot(0, 1, 2);
        x.seal();
        x.tick(2);
        Check.due("r[7] before", x.register(1, 7), -1);
        Check.due("age before", x.at(0, 8), -1);
        x.tick(1);
        Check.due("age, one tick ago", x.at(0, 8), 1);
        x.tick(5);
        Check.due("r[7], five ticks ago", x.register(1, 7), 5);
        Check.due("age", x.at(0, 8), 6);
        x.tick(2);
        Check.due("r[7], seven ticks ago", x.register(1, 7), 7);
        x.tick(3);
        Check.due("age, written anew", x.at(0, 8), 1);
    }

    private static void schedules() {
        Sentence.of("Terms", "SCHEDULES are 0 .. 2");
        SplitKernel x = new SplitKernel(2);
        int[] schedules = {MIN, -1, 0, 1, 2, 3, MAX};
        for (int schedule : schedules) {
            boolean isOne = schedule >= 0 && schedule <= 2;
            Check.due("slot(" + schedule + ", 0, 1)", x.slot(schedule, 0, 1), isOne ? 1 : -1);
        }
        Sentence.of("Terms", "rows of at most 12 SLOTS");
        for (int i = 2; i <= 14; i++) {
            Check.due("slot " + i, x.slot(0, 0, 1), i <= 12 ? i : -1);
        }
        Sentence.of("Terms", "a domain and 1 .. 20 ticks.");
        x = new SplitKernel(2);
        x.slot(0, 1, 20);
        x.slot(0, 0, 1);
        Check.due("slot of 0 ticks", x.slot(0, 0, 0), -1);
        Check.due("slot of 21 ticks", x.slot(0, 0, 21), -1);
        x.seal();
        int[] ticks = {19, 1, 1, 20};
        int[] domains = {1, 0, 1, 0};
        int[] left = {1, 1, 20, 1};
        for (int i = 0; i < ticks.length; i++) {
            x.tick(ticks[i]);
            Check.due("whose slot is next at " + x.told(0), x.told(2), domains[i]);
            Check.due("ticks left at " + x.told(0), x.told(5), left[i]);
        }
        Sentence.of("Terms", "Schedule 0 has slots when the kernel is sealed.");
        x = new SplitKernel(2);
        x.slot(1, 0, 1);
        Check.due("seal() with none in 0", x.seal(), -1);
        x.slot(0, 0, 1);
        Check.due("seal()", x.seal(), 1);
    }

    /** Domain 0 reigns; schedules of so many slots, of one tick each; its program asks for schedules, step by step. */
    private static SplitKernel asker(int slots1, int slots2, int... asks) {
        SplitKernel x = new SplitKernel(2);
        x.flow(0, 1, true);
        for (int ask : asks) {
            Check.program(x, 0, ask < 0 ? Check.set(0, 0) : Check.op(23, ask, 0, 0));
        }
        Check.program(x, 0, Check.op(0, 0, 0, 0));
        int[] slots = {2, slots1, slots2};
        for (int s = 0; s < 3; s++) {
            for (int i = 0; i < slots[s]; i++) {
                x.slot(s, 0, 1);
            }
        }
        x.seal();
        return x;
    }

    private static void dueSchedules(SplitKernel x, int... due) {
        for (int schedule : due) {
            Check.due("schedule at " + x.told(0), x.told(4), schedule);
            x.tick(1);
        }
    }

    private static void askedFor() {
        Sentence.of("Terms", "When one has come to its end, that which is ASKED for begins");
        dueSchedules(asker(3, 1, 1, -1, 2, 2, 2, 0), 0, 0, 1, 1, 1, 2, 0, 0);
        dueSchedules(asker(3, 1, -1, 1), 0, 0, 1, 1, 1, 1, 1);
        SplitKernel x = asker(3, 1, 1, 2, 1);
        x.tick(2);
        Check.due("the slot it begins with", x.told(3), 0);
        Check.due("schedule, the one asked for last", x.told(4), 2);
        Sentence.of("Terms", "(0 at first");
        Check.due("asked for", asker(3, 1, 1).told(6), 0);
        dueSchedules(asker(3, 1, -1), 0, 0, 0, 0, 0);
        Sentence.of("Terms", "asking stays till there is another one)");
        x = asker(3, 1, 1, -1, -1, -1, 0);
        dueSchedules(x, 0, 0, 1, 1, 1, 0, 0, 0);
        x = asker(3, 1, 1);
        dueSchedules(x, 0, 0, 1, 1, 1, 1, 1, 1, 1);
        Check.due("asked for", x.told(6), 1);
        Sentence.of("Terms", "one without slots counts as schedule 0.");
        x = asker(0, 1, 1, -1, -1, 2);
        dueSchedules(x, 0, 0, 0, 0, 2, 2);
        x = asker(3, 0, 1, -1, 2);
        dueSchedules(x, 0, 0, 1, 1, 1, 0, 0, 0);
        Check.due("asked for", x.told(6), 2);
        Check.due("steps", x.of(0, 5), 4);
    }

    private static void slotBegins() {
        Sentence.of("Terms", "A TICK: if a slot begins with it, its domain's queues become as told");
        SplitKernel x = fourSent(3);
        x.slot(0, 0, 6);
        x.slot(0, 1, 2);
        x.seal();
        x.tick(6);
        Check.due("messages to take before the tick", x.at(0, 4), 0);
        x.tick(1);
        Check.due("messages to take after it, one being taken", x.at(0, 4), 1);
        x.tick(1);
        Check.due("messages to take after a tick that begins none", x.at(0, 4), 0);
        Check.due("the second message", x.cell(1, 0), 2);
        stoppedReceiver();

        Sentence.of("Terms", "and what it has sent in a slot is counted anew.");
        x = Check.pair(false, 1);
        x.channel(0, 1, false, 2);
        Check.program(x, 0, Check.set(1, 1));
        for (int i = 0; i < 9; i++) {
            Check.program(x, 0, Check.op(14, i % 3 == 2 ? 1 : 0, 0, 1));
        }
        x.slot(0, 0, 4);
        x.slot(0, 0, 1);
        x.slot(0, 0, 1);
        x.slot(0, 1, 1);
        x.slot(0, 0, 4);
        x.seal();
        int[] done = {0, 1, 0, 1, 1, 1, 1, 1, 1, 0, 1};
        int[] wait = {0, 1, 1, 1, 2, 3, 0, 0, 1, 1, 1};
        for (int i = 0; i < done.length; i++) {
            x.tick(1);
            Check.due("r[7] after tick " + i, x.register(0, 7), done[i]);
            Check.due("messages that wait after tick " + i, x.at(0, 5), wait[i]);
        }
    }

    /** The queues of one that has stopped, or has failed, become as told, too. */
    private static void stoppedReceiver() {
        for (int how = 0; how < 2; how++) {
            SplitKernel x = fourSent(0);
            x.code(1, how == 0 ? Check.op(0, 0, 0, 0) : Check.op(255, 0, 0, 0));
            x.onFail(1, 0);
            x.slot(0, 1, 1);
            x.slot(0, 0, 9);
            x.seal();
            x.tick(11);
            Check.due("state", x.of(1, 1), how + 1);
            Check.due("messages to take", x.at(0, 4), 3);
            Check.due("messages that wait", x.at(0, 5), 0);
            x.tick(10);
            Check.due("messages lost", x.at(0, 6), 3);
            Check.due("messages to take", x.at(0, 4), 1);
        }
    }

    private static void stepOrNone() {
        Sentence.of("Terms", "Then the domain whose slot it is makes a STEP, if its state is 0");
        SplitKernel x = new SplitKernel(3);
        Check.program(x, 0, Check.op(9, 0, 0, 0));
        Check.program(x, 1, Check.op(0, 0, 0, 0));
        x.slot(0, 0, 2);
        x.slot(0, 1, 2);
        x.slot(0, 2, 2);
        x.seal();
        int[] steps = {1, 1, 1, 0, 1, 0, 1, 1, 0, 0, 0, 0};
        for (int i = 0; i < steps.length; i++) {
            Check.due("tick at " + i, x.tick(1), steps[i]);
        }
        Sentence.of("Terms", "and it has not given the rest of the slot away");
        x = new SplitKernel(2);
        Check.program(x, 0, Check.op(21, 0, 0, 0), Check.op(9, 0, 2, 0), Check.op(21, 0, 0, 0), Check.op(9, 0, 0, 0));
        Check.program(x, 1, Check.op(9, 0, 0, 0));
        x.slot(0, 0, 2);
        x.slot(0, 0, 2);
        x.slot(0, 1, 1);
        x.seal();
        int[] given = {1, 0, 1, 1, 1, 1, 1, 1, 1, 1};
        for (int i = 0; i < given.length; i++) {
            Check.due("tick at " + i, x.tick(1), given[i]);
        }
        Sentence.of("Terms", "one instruction.");
        x = Check.alone(Check.set(1, 5), Check.set(1, 6), Check.set(1, 7));
        for (int i = 1; i <= 3; i++) {
            x.tick(1);
            Check.due("register after " + i, x.register(0, 1), 4 + i);
            Check.due("place after " + i, x.of(0, 0), i);
        }
    }

    private static void time() {
        Sentence.of("Terms", "TIME is how many ticks there were before.");
        SplitKernel x = Check.alone(Check.op(20, 1, 0, 0), Check.op(9, 0, 0, 0));
        Check.due("time", x.told(0), 0);
        x.tick(1);
        Check.due("time of the first step", x.register(0, 1), 0);
        Check.due("time", x.told(0), 1);
        x.tick(200);
        Check.due("time of the 201st step", x.register(0, 1), 200);
        Check.due("time", x.told(0), 201);
        Check.due("time of the 200th step", x.action(199, 2), 199);
    }
}
