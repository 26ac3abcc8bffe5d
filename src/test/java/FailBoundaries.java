/** The terms of steps that fail: a test for each clause of theirs. */
final class FailBoundaries {
    private static final int MAX = Integer.MAX_VALUE;
    private static final int MIN = Integer.MIN_VALUE;
    /** No cells; the last four come to a cell when something is added to them. */
    private static final int[] NO_CELLS = {-32, -2, -1, 32, 33, 64, MIN, MIN + 1, MAX, MAX - 3};

    private FailBoundaries() {
    }

    static void all() {
        nothingDone();
        behindTheProgram();
        cells();
        cellsOfMessages();
        cellsOfBoards();
        channels();
        lengths();
        looking();
        asking();
        outputs();
        stateTwo();
        startAnew();
        oneMore();
        counted();
    }

    /**
     * Two domains that may flow to each other, with a queue of size 2 and a board of 3 each way: channels 0 and 1 from
     * 0 to 1, channels 2 and 3 back. Domain 1 has sent two ints, 7 and 8, and written a board. Then domain 0 has these in
     * the registers 1 and 2, 9 in register 7, and is before its step with the instruction, in place 3.
     */
    private static SplitKernel before(int r1, int r2, int instruction) {
        SplitKernel x = new SplitKernel(2);
        for (int from = 0; from < 2; from++) {
            x.flow(from, 1 - from, true);
            x.channel(from, 1 - from, false, 2);
            x.channel(from, 1 - from, true, 3);
        }
        Check.program(x, 1, Check.set(1, 7), Check.op(13, 1, 0, 0), Check.set(2, 1), Check.set(1, 8), Check.op(13, 1, 2, 0),
                Check.set(2, 2), Check.op(14, 2, 0, 2), Check.op(16, 3, 0, 0));
        Check.program(x, 0, Check.op(19, 1, 0, 0), Check.op(19, 2, 0, 0), Check.set(7, 9), instruction);
        x.slot(0, 1, 8);
        x.slot(0, 0, 4);
        x.seal();
        x.input(0, r1);
        x.input(0, r2);
        x.tick(11);
        return x;
    }

    private static String looks(SplitKernel x) {
        StringBuilder all = new StringBuilder();
        for (int d = 0; d < 2; d++) {
            for (int k = 0; k < 32; k++) {
                all.append(x.cell(d, k)).append(' ').append(x.register(d, k)).append(' ');
            }
            all.append(x.of(d, 0)).append(' ').append(x.of(d, 2)).append(' ').append(x.of(d, 3)).append(' ');
        }
        for (int channel = 0; channel < 4; channel++) {
            for (int what = 4; what < 8; what++) {
                all.append(x.at(channel, what)).append(' ');
            }
        }
        return all.append(x.told(6)).toString();
    }

    private static void dueFails(String step, SplitKernel x) {
        String looks = looks(x);
        Check.due("fails before " + step, x.of(0, 4), 0);
        Check.due("tick(1) of " + step, x.tick(1), 1);
        Check.due("fails of " + step, x.of(0, 4), 1);
        Check.due("state after " + step, x.of(0, 1), 2);
        Check.due("place after " + step, x.of(0, 0), 3);
        Check.due("all the rest is as before " + step, looks(x).equals(looks), true);
    }

    private static void dueDone(String step, SplitKernel x) {
        x.tick(1);
        Check.due("fails of " + step, x.of(0, 4), 0);
        Check.due("place after " + step, x.of(0, 0), 4);
    }

    private static void nothingDone() {
        Sentence.of("Terms", "A step FAILS, nothing of it being done (the place stays), when");
        dueFails("an operation that is none", before(1, 1, Check.op(25, 1, 1, 1)));
        dueFails("a send on a board", before(1, 1, Check.op(14, 1, 1, 1)));
        dueFails("a take into no cells", before(31, 1, Check.op(15, 2, 1, 1)));
        dueFails("a look at no cell", before(1, 32, Check.op(22, 1, 1, 2)));
    }

    private static void behindTheProgram() {
        Sentence.of("Terms", "the place is behind the program");
        SplitKernel x = Check.alone();
        Check.due("steps without a program", x.tick(9), 1);
        Check.due("state", x.of(0, 1), 2);
        Check.due("place", x.of(0, 0), 0);
        x = Check.alone(Check.set(0, 1));
        Check.due("steps of a program of one instruction", x.tick(9), 2);
        Check.due("state", x.of(0, 1), 2);
        Check.due("place", x.of(0, 0), 1);
        int[] places = {2, 3, 64, 255};
        for (int place : places) {
            x = Check.alone(Check.set(0, 1), Check.op(9, 0, place, 0));
            Check.due("steps till place " + place, x.tick(9), 3);
            Check.due("state", x.of(0, 1), 2);
            Check.due("place", x.of(0, 0), place);
        }
        x = Check.alone(Check.op(9, 0, 1, 0), Check.op(9, 0, 1, 0));
        x.tick(9);
        Check.due("state in the last place", x.of(0, 1), 0);
    }

    private static void cells() {
        Sentence.of("Terms", "a cell is not 0 .. 31");
        for (int k : NO_CELLS) {
            dueFails("12 of cell " + k, before(k, 1, Check.op(12, 2, 1, 0)));
            dueFails("13 of cell " + k, before(k, 1, Check.op(13, 2, 1, 0)));
            dueFails("22 of cell " + k + " of the other", before(1, k, Check.op(22, 3, 1, 2)));
            dueFails("22 of cell " + k + " of itself", before(1, k, Check.op(22, 3, 0, 2)));
        }
        for (int k = 0; k < 32; k++) {
            dueDone("12 of cell " + k, before(k, 1, Check.op(12, 2, 1, 0)));
            dueDone("13 of cell " + k, before(k, 1, Check.op(13, 2, 1, 0)));
            dueDone("22 of cell " + k, before(1, k, Check.op(22, 3, 1, 2)));
        }
    }

    private static void cellsOfMessages() {
        Sentence.of("Terms", "a cell is not 0 .. 31");
        for (int words = 1; words <= 4; words++) {
            for (int k : NO_CELLS) {
                dueFails("14 of " + words + " from " + k, before(k, words, Check.op(14, 0, 1, 2)));
            }
            for (int k = 33 - words; k < 32; k++) {
                dueFails("14 of " + words + " from " + k, before(k, words, Check.op(14, 0, 1, 2)));
            }
            dueDone("14 of " + words + " from 0", before(0, words, Check.op(14, 0, 1, 2)));
            dueDone("14 of " + words + " from " + (32 - words), before(32 - words, words, Check.op(14, 0, 1, 2)));
        }
        for (int k : NO_CELLS) {
            dueFails("15 of 2 to " + k, before(k, 1, Check.op(15, 2, 1, 0)));
        }
        dueFails("15 of 2 to 31", before(31, 1, Check.op(15, 2, 1, 0)));
        SplitKernel x = before(30, 1, Check.op(15, 2, 1, 0));
        dueDone("15 of 2 to 30", x);
        Check.due("cell 30", x.cell(0, 30), 7);
        Check.due("cell 31", x.cell(0, 31), 8);
        dueDone("15 of 2 to 0", before(0, 1, Check.op(15, 2, 1, 0)));
    }

    private static void cellsOfBoards() {
        Sentence.of("Terms", "a cell is not 0 .. 31");
        for (int k : NO_CELLS) {
            dueFails("16 of 3 from " + k, before(k, 1, Check.op(16, 1, 1, 0)));
            dueFails("17 of 3 to " + k, before(k, 1, Check.op(17, 3, 1, 0)));
        }
        for (int k = 30; k <= 31; k++) {
            dueFails("16 of 3 from " + k, before(k, 1, Check.op(16, 1, 1, 0)));
            dueFails("17 of 3 to " + k, before(k, 1, Check.op(17, 3, 1, 0)));
        }
        for (int k = 0; k < 30; k += 29) {
            dueDone("16 of 3 from " + k, before(k, 1, Check.op(16, 1, 1, 0)));
            SplitKernel x = before(k, 1, Check.op(17, 3, 1, 0));
            dueDone("17 of 3 to " + k, x);
            Check.due("cell " + (k + 1), x.cell(0, k + 1), 8);
        }
    }

    /** What domain 0 may do on a channel: send on 0, write on 1, take of 2, see 3. */
    private static void channels() {
        int[] operationOf = {14, 16, 15, 17};
        int[] noChannels = {4, 5, 11, 12, 127, 128, 255};
        for (int operation = 14; operation <= 17; operation++) {
            Sentence.of("Terms", "a channel is none");
            for (int channel : noChannels) {
                dueFails(operation + " on channel " + channel, before(1, 1, Check.op(operation, channel, 1, 2)));
            }
            for (int channel = 0; channel < 4; channel++) {
                boolean isOfKind = channel % 2 == (operation >= 16 ? 1 : 0);
                Sentence.of("Terms", isOfKind ? "or not the domain's to send or write (14, 16), or to take or see (15, 17)" : "not of the kind");
                SplitKernel x = before(1, 1, Check.op(operation, channel, 1, 2));
                if (operationOf[channel] == operation) {
                    dueDone(operation + " on channel " + channel, x);
                } else {
                    dueFails(operation + " on channel " + channel, x);
                }
            }
        }
    }

    private static void lengths() {
        Sentence.of("Terms", "r[c] of 14 is not 1 .. 4");
        int[] others = {MIN, -1, 0, 5, 6, 256, 257, MAX};
        for (int words : others) {
            dueFails("14 of " + words, before(0, words, Check.op(14, 0, 1, 2)));
        }
        for (int words = 1; words <= 4; words++) {
            dueDone("14 of " + words, before(0, words, Check.op(14, 0, 1, 2)));
        }
    }

    private static void looking() {
        Sentence.of("Terms", "domain b of 22 is none");
        int[] noDomains = {2, 3, 6, 31, 32, 33, 127, 128, 255};
        for (int b : noDomains) {
            dueFails("22 of domain " + b, before(1, 1, Check.op(22, 1, b, 2)));
        }
        Sentence.of("Terms", "or may not flow to this one");
        for (int other = 1; other < 6; other++) {
            for (int way = 0; way < 2; way++) {
                SplitKernel x = new SplitKernel(6);
                x.flow(way == 0 ? 0 : other, way == 0 ? other : 0, true);
                Check.program(x, 0, Check.op(22, 1, other, 0));
                x.slot(0, 0, 1);
                x.seal();
                x.tick(1);
                Check.due("fails of a look at " + other + (way == 0 ? ", against" : ", with") + " the flow", x.of(0, 4), 1 - way);
            }
        }
    }

    private static void asking() {
        Sentence.of("Terms", "a of 23 is not 0 .. 2");
        int[] noSchedules = {3, 4, 127, 128, 254, 255};
        for (int a : noSchedules) {
            dueFails("23 of " + a, before(1, 1, Check.op(23, a, 0, 0)));
        }
        for (int a = 0; a < 3; a++) {
            dueDone("23 of " + a, before(1, 1, Check.op(23, a, 0, 0)));
        }
        Sentence.of("Terms", "or the domain does not reign");
        for (int lacking = 1; lacking <= 6; lacking++) {
            for (int schedule = 0; schedule < 3; schedule++) {
                SplitKernel x = new SplitKernel(6);
                for (int b = 1; b < 6; b++) {
                    x.flow(0, b, b != lacking);
                    x.flow(b, 0, true);
                }
                Check.program(x, 0, Check.op(23, schedule, 0, 0));
                x.slot(0, 0, 2);
                x.seal();
                x.tick(1);
                Check.due("fails of one that lacks " + lacking, x.of(0, 4), lacking < 6 ? 1 : 0);
                Check.due("asked for", x.told(6), lacking < 6 ? 0 : schedule);
            }
        }
    }

    private static void outputs() {
        Sentence.of("Terms", "there are 200 outputs and would be one more (18).");
        SplitKernel x = Check.alone(Check.set(1, 1), Check.op(3, 0, 0, 1), Check.op(18, 0, 0, 0), Check.op(9, 0, 1, 0));
        x.tick(200);
        x.tick(200);
        Check.due("tick(200), till the 200th output and on", x.tick(200), 200);
        Check.due("outputs", x.of(0, 3), 200);
        Check.due("fails", x.of(0, 4), 0);
        Check.due("tick(200), till the next one would be", x.tick(200), 3);
        Check.due("outputs", x.of(0, 3), 200);
        Check.due("output 199", x.output(0, 199), 200);
        Check.due("fails", x.of(0, 4), 1);
        Check.due("state", x.of(0, 1), 2);
        Check.due("place", x.of(0, 0), 2);
        x = Check.aloneOnFail(1, Check.op(18, 0, 0, 0), Check.op(9, 0, 0, 0));
        for (int i = 0; i < 3; i++) {
            x.tick(200);
        }
        Check.due("outputs of one that starts anew", x.of(0, 3), 200);
        Check.due("fails of it", x.of(0, 4), 200);
    }

    private static void stateTwo() {
        Sentence.of("Terms", "Then, by what is told for the domain: 0 its state is 2");
        SplitKernel x = Check.aloneOnFail(0, Check.set(1, 31), Check.op(13, 1, 1, 0), Check.op(99, 0, 0, 0), Check.set(1, 5));
        Check.due("tick(200)", x.tick(200), 3);
        Check.due("state", x.of(0, 1), 2);
        Check.due("place", x.of(0, 0), 2);
        Check.due("register", x.register(0, 1), 31);
        Check.due("cell", x.cell(0, 31), 31);
    }

    private static void startAnew() {
        Sentence.of("Terms", "1 its place is 0, its registers and cells are 0, and it goes on with its next step");
        SplitKernel x = Check.pair(false, 1);
        x.onFail(0, 1);
        Check.program(x, 0, Check.op(19, 1, 0, 0), Check.op(18, 1, 0, 0));
        for (int k = 0; k < 8; k++) {
            x.code(0, Check.set(k, 24 + k));
            x.code(0, Check.op(13, k, k, 0));
        }
        Check.program(x, 0, Check.set(1, 1), Check.op(13, 1, 0, 0), Check.set(0, 0), Check.op(13, 1, 0, 0), Check.op(14, 0, 0, 1),
                Check.op(77, 0, 0, 0));
        x.slot(0, 0, 20);
        x.slot(0, 0, 20);
        x.slot(0, 1, 1);
        x.seal();
        x.input(0, 40);
        x.input(0, 50);
        x.tick(23);
        Check.due("cell 31 before", x.cell(0, 31), 31);
        Check.due("messages that wait before", x.at(0, 5), 1);
        x.tick(1);
        Check.due("state", x.of(0, 1), 0);
        Check.due("place", x.of(0, 0), 0);
        Check.due("fails", x.of(0, 4), 1);
        for (int k = 0; k < 32; k++) {
            Check.due("register " + k, x.register(0, k), 0);
            Check.due("cell " + k, x.cell(0, k), 0);
        }
        Check.due("inputs that wait, left as they are", x.of(0, 2), 1);
        Check.due("outputs, left as they are", x.of(0, 3), 1);
        Check.due("messages that wait, left as they are", x.at(0, 5), 1);
        Check.due("steps", x.of(0, 5), 24);
        Check.due("the next two steps", x.tick(2), 2);
        Check.due("the next output", x.output(0, 1), 50);
        Check.due("place", x.of(0, 0), 2);
    }

    private static void oneMore() {
        Sentence.of("Terms", "2 the place is one more.");
        SplitKernel x = Check.aloneOnFail(2, Check.set(1, 31), Check.op(13, 1, 1, 0), Check.op(99, 0, 0, 0), Check.set(2, 5),
                Check.op(9, 0, 255, 0));
        x.tick(3);
        Check.due("state", x.of(0, 1), 0);
        Check.due("place", x.of(0, 0), 3);
        Check.due("register", x.register(0, 1), 31);
        Check.due("cell", x.cell(0, 31), 31);
        x.tick(1);
        Check.due("register by the next step", x.register(0, 2), 5);
        x.tick(1);
        for (int place = 255; place < 260; place++) {
            Check.due("place behind the program", x.of(0, 0), place);
            x.tick(1);
        }
        Check.due("state", x.of(0, 1), 0);
    }

    private static void counted() {
        Sentence.of("Terms", "FAILS are counted.");
        for (int how = 0; how < 3; how++) {
            SplitKernel x = new SplitKernel(2);
            x.onFail(0, how);
            Check.program(x, 0, Check.op(200, 0, 0, 0), Check.op(201, 0, 0, 0));
            Check.program(x, 1, Check.op(9, 0, 0, 0));
            x.slot(0, 0, 1);
            x.slot(0, 1, 1);
            x.seal();
            for (int i = 1; i <= 5; i++) {
                x.tick(2);
                Check.due("fails, on a fail " + how, x.of(0, 4), how == 0 ? 1 : i);
                Check.due("fails of the other", x.of(1, 4), 0);
            }
        }
    }
}
