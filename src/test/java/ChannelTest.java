/** Promise 14 and the instructions 14 to 17: queues and boards. */
public final class ChannelTest {
    public static void main(String[] args) {
        messagesWait();
        sendsAreCounted();
        messagesAreLost();
        handedOverWithTheTick();
        lengths();
        waitingForLong();
        badSends();
        badTakes();
        boards();
        badBoards();
        ofNone();
        Check.end();
    }

    private static void dueAt(SplitKernel x, String when, int toTake, int waiting, int lost) {
        Check.due("messages to take " + when, x.at(0, 4), toTake);
        Check.due("messages that wait " + when, x.at(0, 5), waiting);
        Check.due("messages lost " + when, x.at(0, 6), lost);
    }

    private static void messagesWait() {
        SplitKernel x = Check.pair(false, 2);
        Check.program(x, 0, Check.set(1, 1), Check.set(2, 70), Check.op(13, 2, 0, 0), Check.op(14, 0, 0, 1),
                Check.set(2, 80), Check.op(13, 2, 0, 0), Check.op(14, 0, 0, 1), Check.op(9, 0, 7, 0));
        Check.program(x, 1, Check.op(15, 0, 0, 0), Check.op(15, 0, 0, 0), Check.op(15, 0, 0, 0));
        x.slot(0, 1, 1);
        x.slot(0, 0, 8);
        x.seal();
        x.tick(1);
        Check.due("r[7] when there is none", x.register(1, 7), -1);
        x.tick(4);
        Check.due("r[7] of the sender", x.register(0, 7), 1);
        dueAt(x, "after one", 0, 1, 0);
        x.tick(4);
        dueAt(x, "after two", 0, 2, 0);
        x.tick(1);
        Check.due("r[7] of the receiver", x.register(1, 7), 1);
        Check.due("cell of the receiver, the first one first", x.cell(1, 0), 70);
        dueAt(x, "after one was taken", 1, 0, 0);
        x.tick(9);
        Check.due("what was not taken is there no more", x.register(1, 7), -1);
        Check.due("cell of the receiver", x.cell(1, 0), 70);
        dueAt(x, "at last", 0, 0, 1);
        Check.due("writes of a queue", x.at(0, 7), 0);
        Check.due("age of a queue", x.at(0, 8), 0);
    }

    private static void sendsAreCounted() {
        for (int size = 1; size <= 4; size++) {
            SplitKernel x = Check.pair(false, size);
            x.channel(0, 1, false, 1);
            Check.program(x, 0, Check.set(1, 1), Check.op(14, 0, 0, 1), Check.op(9, 0, 1, 0));
            x.slot(0, 0, 15);
            x.slot(0, 0, 2);
            x.slot(0, 1, 1);
            x.seal();
            for (int i = 0; i < 6; i++) {
                x.tick(2);
                Check.due("r[7] of send " + i + ", size " + size, x.register(0, 7), i < size ? 1 : 0);
                Check.due("messages that wait", x.at(0, 5), Math.min(i + 1, size));
            }
            x.tick(3);
            Check.due("r[7] at the end of the slot", x.register(0, 7), 0);
            x.tick(2);
            Check.due("r[7] in the domain's next slot, at once", x.register(0, 7), 1);
            Check.due("messages that wait of two slots", x.at(0, 5), size + 1);
            x.tick(1);
            dueAt(x, "when the receiver's slot begins", size + 1, 0, 0);
        }
    }

    private static void messagesAreLost() {
        SplitKernel x = Check.pair(false, 4);
        Check.program(x, 0, Check.set(1, 4), Check.op(14, 0, 0, 1), Check.op(14, 0, 0, 1), Check.op(14, 0, 0, 1), Check.op(0, 0, 0, 0));
        Check.program(x, 1, Check.op(15, 0, 0, 0), Check.op(0, 0, 0, 0));
        x.slot(0, 0, 5);
        x.slot(0, 1, 1);
        x.slot(0, 1, 2);
        x.seal();
        x.tick(6);
        dueAt(x, "in the receiver's slot", 2, 0, 0);
        x.tick(1);
        dueAt(x, "in the receiver's next slot, at once", 0, 0, 2);
        x.tick(1);
        dueAt(x, "in the same slot", 0, 0, 2);
        x.tick(8);
        dueAt(x, "when the receiver has stopped", 0, 0, 2);
    }

    private static void handedOverWithTheTick() {
        SplitKernel x = Check.pair(false, 4);
        Check.program(x, 0, Check.set(1, 1), Check.op(14, 0, 0, 1));
        Check.program(x, 1, Check.op(0, 0, 0, 0));
        x.slot(0, 0, 2);
        x.slot(0, 1, 3);
        x.seal();
        x.tick(2);
        dueAt(x, "before the slot's first tick", 0, 1, 0);
        x.tick(1);
        dueAt(x, "after it", 1, 0, 0);
        x.tick(4);
        dueAt(x, "before the next slot's first tick", 1, 0, 0);
        x.tick(1);
        dueAt(x, "of a domain that has stopped", 0, 0, 1);
    }

    private static void lengths() {
        for (int n = 1; n <= 4; n++) {
            SplitKernel x = Check.pair(false, 1);
            Check.program(x, 0, Check.set(1, 32 - n), Check.set(2, n), Check.set(3, 27));
            for (int k = 27; k < 32; k++) {
                Check.program(x, 0, Check.set(4, 10 * k), Check.set(3, k), Check.op(13, 4, 3, 0));
            }
            Check.program(x, 0, Check.op(14, 0, 1, 2));
            Check.program(x, 1, Check.set(1, 2), Check.op(15, 0, 1, 0));
            x.slot(0, 0, 19);
            x.slot(0, 1, 2);
            x.seal();
            x.tick(21);
            Check.due("r[7], length " + n, x.register(1, 7), n);
            for (int k = 0; k < 32; k++) {
                boolean isTaken = k >= 2 && k < 2 + n;
                Check.due("cell " + k + ", length " + n, x.cell(1, k), isTaken ? 10 * (k - 2 + 32 - n) : 0);
            }
        }
    }

    /** A receiver whose slot never comes: all that is sent waits, as many as there can be. */
    private static void waitingForLong() {
        SplitKernel x = new SplitKernel(2);
        x.flow(0, 1, true);
        x.flow(1, 0, true);
        x.channel(0, 1, false, 4);
        x.onFail(1, 2);
        Check.program(x, 0, Check.set(1, 4), Check.op(23, 1, 0, 0), Check.op(3, 2, 2, 1), Check.op(13, 2, 0, 0),
                Check.op(14, 0, 0, 1), Check.op(9, 0, 2, 0));
        Check.program(x, 1, Check.op(0, 0, 0, 0));
        x.slot(0, 0, 2);
        x.slot(1, 0, 4);
        x.seal();
        int steps = 0;
        for (int i = 0; i < 16; i++) {
            steps += x.tick(200);
        }
        Check.due("steps", steps, 3000);
        Check.due("messages that wait", x.at(0, 5), 749);
        Check.due("domain 1 undisturbed", x.undisturbed(1), 1);
    }

    private static int failsOf(SplitKernel x, int domain) {
        x.slot(0, domain, 20);
        x.seal();
        x.tick(20);
        Check.due("messages that wait after a fail", x.at(0, 5), 0);
        return x.of(domain, 4);
    }

    private static int failsOfSend(int channel, int first, int words) {
        SplitKernel x = Check.pair(false, 1);
        x.flow(1, 0, true);
        x.channel(0, 1, true, 1);
        x.channel(1, 0, false, 1);
        Check.program(x, 0, Check.set(1, first), Check.set(2, words), Check.set(7, 9), Check.op(14, channel, 1, 2), Check.op(0, 0, 0, 0));
        int fails = failsOf(x, 0);
        Check.due("r[7] after a failing send", x.register(0, 7), 9);
        Check.due("place after a failing send", x.of(0, 0), 4);
        return fails;
    }

    private static void badSends() {
        Check.due("send of 0", failsOfSend(0, 0, 0), 1);
        Check.due("send of 5", failsOfSend(0, 0, 5), 1);
        Check.due("send of -1", failsOfSend(0, 0, -1), 1);
        Check.due("send of 4 from 29", failsOfSend(0, 29, 4), 1);
        Check.due("send of 1 from 32", failsOfSend(0, 32, 1), 1);
        Check.due("send of 1 from -1", failsOfSend(0, -1, 1), 1);
        Check.due("send of 2 from -1", failsOfSend(0, -1, 2), 1);
        Check.due("send on a board", failsOfSend(1, 0, 1), 1);
        Check.due("send on another's queue", failsOfSend(2, 0, 1), 1);
        Check.due("send on no channel", failsOfSend(3, 0, 1), 1);
        Check.due("send on no channel", failsOfSend(12, 0, 1), 1);
        Check.due("send on no channel", failsOfSend(255, 0, 1), 1);
        SplitKernel x = Check.pair(false, 1);
        Check.program(x, 0, Check.set(2, 1), Check.op(14, 0, 1, 2), Check.set(1, 32), Check.op(14, 0, 1, 2),
                Check.op(14, 0, 2, 1), Check.op(14, 0, 2, 2), Check.op(0, 0, 0, 0));
        x.slot(0, 0, 20);
        x.seal();
        x.tick(20);
        Check.due("fails when no more may be sent", x.of(0, 4), 2);
        Check.due("r[7] when no more may be sent", x.register(0, 7), 0);
    }

    private static int failsOfTake(int channel, int domain) {
        SplitKernel x = Check.pair(false, 1);
        x.channel(0, 1, true, 1);
        Check.program(x, domain, Check.set(7, 9), Check.op(15, channel, 0, 0), Check.op(0, 0, 0, 0));
        return failsOf(x, domain);
    }

    private static void badTakes() {
        Check.due("take of its own", failsOfTake(0, 1), 0);
        Check.due("take by the sender", failsOfTake(0, 0), 1);
        Check.due("take of a board", failsOfTake(1, 1), 1);
        Check.due("take of no channel", failsOfTake(2, 1), 1);
        Check.due("take of no channel", failsOfTake(255, 1), 1);
        SplitKernel x = Check.pair(false, 1);
        Check.program(x, 0, Check.set(2, 2), Check.set(3, 5), Check.op(13, 3, 0, 0), Check.op(14, 0, 1, 2), Check.op(0, 0, 0, 0));
        Check.program(x, 1, Check.set(1, 31), Check.op(15, 0, 1, 0), Check.set(1, -1), Check.op(15, 0, 1, 0), Check.set(1, 30),
                Check.op(15, 0, 1, 0), Check.set(1, 32), Check.op(15, 0, 1, 0));
        x.slot(0, 0, 5);
        x.slot(0, 1, 20);
        x.seal();
        x.tick(7);
        Check.due("fails of a take behind the cells", x.of(1, 4), 1);
        Check.due("cell 31", x.cell(1, 31), 0);
        Check.due("messages to take after a fail", x.at(0, 4), 1);
        x.tick(2);
        Check.due("fails of a take before the cells", x.of(1, 4), 2);
        x.tick(2);
        Check.due("r[7]", x.register(1, 7), 2);
        Check.due("cell 30", x.cell(1, 30), 5);
        Check.due("messages to take", x.at(0, 4), 0);
        x.tick(2);
        Check.due("r[7] when there is none", x.register(1, 7), -1);
        Check.due("fails when there is none", x.of(1, 4), 2);
    }

    private static void boards() {
        for (int size = 1; size <= 4; size++) {
            SplitKernel x = Check.pair(true, size);
            Check.program(x, 0, Check.set(1, 32 - size));
            for (int i = 0; i < 4; i++) {
                Check.program(x, 0, Check.set(2, 28 + i), Check.op(13, 2, 2, 0));
            }
            Check.program(x, 0, Check.op(16, 0, 1, 0), Check.op(13, 0, 1, 0), Check.op(0, 0, 0, 0));
            Check.program(x, 1, Check.set(1, 3), Check.set(2, 9), Check.op(13, 2, 1, 0), Check.op(17, 0, 1, 0), Check.op(17, 0, 1, 0),
                    Check.op(17, 0, 1, 0));
            x.slot(0, 1, 4);
            x.slot(0, 0, 10);
            x.slot(0, 1, 2);
            x.seal();
            Check.due("age before", x.at(0, 8), -1);
            x.tick(4);
            Check.due("r[7] before", x.register(1, 7), -1);
            Check.due("cell by a board not written", x.cell(1, 3), 0);
            x.tick(9);
            Check.due("age before", x.at(0, 8), -1);
            Check.due("writes before", x.at(0, 7), 0);
            x.tick(1);
            Check.due("age after the tick that wrote", x.at(0, 8), 1);
            Check.due("writes", x.at(0, 7), 1);
            x.tick(1);
            Check.due("r[7] one tick later", x.register(1, 7), 1);
            x.tick(1);
            Check.due("r[7] two ticks later", x.register(1, 7), 2);
            for (int k = 0; k < 32; k++) {
                boolean isShown = k >= 3 && k < 3 + size;
                Check.due("cell " + k + " of size " + size, x.cell(1, k), isShown ? 32 - size + k - 3 : 0);
            }
            dueAt(x, "of a board", 0, 0, 0);
            x.tick(10);
            Check.due("age", x.at(0, 8), 13);
            Check.due("r[7] of the writer", x.register(0, 7), 0);
        }
    }

    private static int failsOfBoard(int operation, int domain, int channel, int first) {
        SplitKernel x = Check.pair(true, 3);
        x.channel(0, 1, false, 1);
        Check.program(x, domain, Check.set(1, first), Check.set(7, 9), Check.op(operation, channel, 1, 0), Check.op(0, 0, 0, 0));
        int fails = failsOf(x, domain);
        Check.due("writes", x.at(0, 7), operation == 16 && fails == 0 ? 1 : 0);
        Check.due("r[7]", x.register(domain, 7), operation == 17 && fails == 0 ? -1 : 9);
        return fails;
    }

    private static void badBoards() {
        Check.due("write from 29", failsOfBoard(16, 0, 0, 29), 0);
        Check.due("write from 30", failsOfBoard(16, 0, 0, 30), 1);
        Check.due("write from -1", failsOfBoard(16, 0, 0, -1), 1);
        Check.due("write by the one that sees", failsOfBoard(16, 1, 0, 0), 1);
        Check.due("write on a queue", failsOfBoard(16, 0, 1, 0), 1);
        Check.due("write on no channel", failsOfBoard(16, 0, 2, 0), 1);
        Check.due("see at 29", failsOfBoard(17, 1, 0, 29), 0);
        Check.due("see at 30", failsOfBoard(17, 1, 0, 30), 1);
        Check.due("see at -1", failsOfBoard(17, 1, 0, -1), 1);
        Check.due("see by the writer", failsOfBoard(17, 0, 0, 0), 1);
        Check.due("see of a queue", failsOfBoard(17, 1, 1, 0), 1);
        Check.due("see of no channel", failsOfBoard(17, 1, 255, 0), 1);
    }

    private static void ofNone() {
        SplitKernel x = Check.pair(true, 2);
        Check.due("at(0, 0)", x.at(0, 0), 0);
        Check.due("at(0, 1)", x.at(0, 1), 1);
        Check.due("at(0, 2)", x.at(0, 2), 1);
        Check.due("at(0, 3)", x.at(0, 3), 2);
        Check.due("at(0, 8) before sealing", x.at(0, 8), -1);
        int[] none = {-1, 1, 12, Integer.MAX_VALUE, Integer.MIN_VALUE};
        for (int channel : none) {
            Check.due("at(" + channel + ", 0)", x.at(channel, 0), -1);
        }
        int[] others = {-1, 9, Integer.MAX_VALUE, Integer.MIN_VALUE};
        for (int what : others) {
            Check.due("at(0, " + what + ")", x.at(0, what), -1);
        }
    }
}
