/** What each instruction does to its domain, and when a step fails. */
public final class InstructionTest {
    private static final int MAX = Integer.MAX_VALUE;
    private static final int MIN = Integer.MIN_VALUE;

    public static void main(String[] args) {
        stop();
        constants();
        arithmetic();
        bigNumbers();
        jumps();
        cells();
        outputs();
        inputs();
        timeAndSlot();
        givenAway();
        looking();
        unknownOperations();
        behindTheProgram();
        failsLeaveNothing();
        Check.end();
    }

    private static void stop() {
        SplitKernel x = Check.alone(Check.set(0, 3), Check.op(0, 9, 9, 9), Check.set(0, 4));
        Check.due("tick(5)", x.tick(5), 2);
        Check.due("state", x.of(0, 1), 1);
        Check.due("place", x.of(0, 0), 1);
        Check.due("register", x.register(0, 0), 3);
        Check.due("fails", x.of(0, 4), 0);
    }

    private static void constants() {
        int[] values = {0, 1, 255, 256, 32767, -32768, -1, -256};
        for (int v : values) {
            SplitKernel x = Check.alone(Check.set(3, v));
            x.tick(1);
            Check.due("constant " + v, x.register(0, 3), v);
        }
        SplitKernel x = Check.alone(Check.set(9, 5), Check.set(255, 6), Check.op(2, 130, 9, 0), Check.op(3, 11, 129, 255));
        x.tick(4);
        Check.due("register 9 mod 8", x.register(0, 1), 5);
        Check.due("register 255 mod 8", x.register(0, 7), 6);
        Check.due("register 130 mod 8", x.register(0, 2), 5);
        Check.due("register 11 mod 8", x.register(0, 3), 11);
        Check.due("place", x.of(0, 0), 4);
    }

    private static int result(int operation, int b, int c) {
        SplitKernel x = Check.alone(Check.set(1, b), Check.set(2, c), Check.op(operation, 0, 1, 2));
        Check.due("steps of " + operation, x.tick(3), 3);
        Check.due("place after " + operation, x.of(0, 0), 3);
        Check.due("fails of " + operation, x.of(0, 4), 0);
        return x.register(0, 0);
    }

    private static void arithmetic() {
        int[] values = {0, 1, -1, 7, 12, -12, 32767, -32768};
        for (int b : values) {
            for (int c : values) {
                String of = " of " + b + ", " + c;
                Check.due("2" + of, result(2, b, c), b);
                Check.due("3" + of, result(3, b, c), b + c);
                Check.due("4" + of, result(4, b, c), b - c);
                Check.due("5" + of, result(5, b, c), b * c);
                Check.due("6" + of, result(6, b, c), b & c);
                Check.due("7" + of, result(7, b, c), b ^ c);
                Check.due("8" + of, result(8, b, c), b < c ? 1 : 0);
            }
        }
    }

    private static int resultOfInputs(int operation, int b, int c) {
        SplitKernel x = Check.alone(Check.op(19, 1, 0, 0), Check.op(19, 2, 0, 0), Check.op(operation, 0, 1, 2));
        x.input(0, b);
        x.input(0, c);
        x.tick(3);
        return x.register(0, 0);
    }

    private static void bigNumbers() {
        Check.due("MAX + 1", resultOfInputs(3, MAX, 1), MIN);
        Check.due("MIN - 1", resultOfInputs(4, MIN, 1), MAX);
        Check.due("MAX MAX", resultOfInputs(5, MAX, MAX), 1);
        Check.due("MIN less than MAX", resultOfInputs(8, MIN, MAX), 1);
        Check.due("MAX less than MIN", resultOfInputs(8, MAX, MIN), 0);
        Check.due("MIN in both with MAX", resultOfInputs(6, MIN, MAX), 0);
        Check.due("MIN in one alone with MAX", resultOfInputs(7, MIN, MAX), -1);
    }

    private static int placeAfter(int operation, int r, int b) {
        SplitKernel x = Check.alone(Check.set(10, r), Check.op(operation, 2, b, 77), 0, 0, 0);
        x.tick(2);
        Check.due("register after a jump", x.register(0, 2), r);
        return x.of(0, 0);
    }

    private static void jumps() {
        Check.due("9", placeAfter(9, 5, 0), 0);
        Check.due("9 on itself", placeAfter(9, 5, 1), 1);
        Check.due("9 behind the program", placeAfter(9, 5, 255), 255);
        Check.due("10 of 0", placeAfter(10, 0, 4), 4);
        Check.due("10 of 1", placeAfter(10, 1, 4), 2);
        Check.due("10 of -1", placeAfter(10, -1, 4), 2);
        Check.due("11 of 0", placeAfter(11, 0, 4), 2);
        Check.due("11 of 1", placeAfter(11, 1, 4), 4);
        Check.due("11 of -1", placeAfter(11, -1, 200), 200);
    }

    private static void cells() {
        int[] good = {0, 1, 30, 31};
        for (int k : good) {
            SplitKernel x = Check.alone(Check.set(1, k), Check.set(0, 9), Check.op(13, 0, 1, 0), Check.op(12, 5, 1, 0));
            x.tick(4);
            Check.due("cell " + k, x.cell(0, k), 9);
            Check.due("register from cell " + k, x.register(0, 5), 9);
            Check.due("fails", x.of(0, 4), 0);
        }
        int[] bad = {-1, 32, 33, 32767, -32768};
        for (int k : bad) {
            SplitKernel x = Check.aloneOnFail(2, Check.set(1, k), Check.set(5, 9), Check.op(12, 5, 1, 0), Check.op(13, 5, 1, 0));
            x.tick(4);
            Check.due("fails with cell " + k, x.of(0, 4), 2);
            Check.due("register after the fail", x.register(0, 5), 9);
            Check.due("place", x.of(0, 0), 4);
        }
    }

    private static void outputs() {
        SplitKernel x = Check.alone(Check.set(1, 1), Check.op(3, 0, 0, 1), Check.op(18, 0, 0, 0), Check.op(9, 0, 1, 0));
        x.tick(200);
        x.tick(200);
        x.tick(199);
        Check.due("outputs", x.of(0, 3), 199);
        x.tick(4);
        Check.due("outputs", x.of(0, 3), 200);
        Check.due("state", x.of(0, 1), 2);
        Check.due("fails", x.of(0, 4), 1);
        Check.due("place", x.of(0, 0), 2);
        Check.due("output 0", x.output(0, 0), 1);
        Check.due("output 199", x.output(0, 199), 200);
        Check.due("output 200", x.output(0, 200), 0);
        Check.due("output -1", x.output(0, -1), 0);
    }

    private static void inputs() {
        SplitKernel x = Check.alone(Check.set(1, 4), Check.set(7, 5), Check.op(19, 1, 0, 0), Check.op(19, 1, 0, 0),
                Check.op(19, 2, 0, 0), Check.op(19, 7, 0, 0), Check.op(19, 3, 0, 0));
        x.tick(3);
        Check.due("register without an input", x.register(0, 1), 4);
        Check.due("r[7] without an input", x.register(0, 7), 0);
        x.input(0, 30);
        x.input(0, MIN);
        x.input(0, 50);
        x.tick(1);
        Check.due("first input", x.register(0, 1), 30);
        Check.due("r[7] with an input", x.register(0, 7), 1);
        Check.due("inputs that wait", x.of(0, 2), 2);
        x.tick(1);
        Check.due("second input", x.register(0, 2), MIN);
        x.tick(1);
        Check.due("r[7] with an input for itself", x.register(0, 7), 1);
        Check.due("inputs that wait", x.of(0, 2), 0);
        x.tick(1);
        Check.due("register without an input", x.register(0, 3), 0);
        Check.due("r[7] without an input", x.register(0, 7), 0);
    }

    private static void timeAndSlot() {
        SplitKernel x = new SplitKernel(2);
        Check.program(x, 0, Check.op(20, 1, 0, 0), Check.op(24, 2, 0, 0), Check.op(24, 3, 0, 0), Check.op(20, 4, 0, 0));
        x.slot(0, 1, 5);
        x.slot(0, 0, 3);
        x.seal();
        x.tick(16);
        Check.due("time at the first step", x.register(0, 1), 5);
        Check.due("ticks left at the second step", x.register(0, 2), 2);
        Check.due("ticks left at the last step of a slot", x.register(0, 3), 1);
        Check.due("time in the next slot", x.register(0, 4), 13);
    }

    private static void givenAway() {
        SplitKernel x = new SplitKernel(2);
        Check.program(x, 0, Check.set(1, 1), Check.op(21, 0, 0, 0), Check.set(1, 2), Check.op(21, 0, 0, 0), Check.op(21, 0, 0, 0));
        x.slot(0, 0, 5);
        x.slot(0, 0, 3);
        x.slot(0, 1, 1);
        x.seal();
        Check.due("steps till it is given away", x.tick(2), 2);
        Check.due("state", x.of(0, 1), 0);
        Check.due("steps of the rest", x.tick(3), 0);
        Check.due("place in the rest", x.of(0, 0), 2);
        Check.due("steps of the domain's next slot, at once", x.tick(1), 1);
        Check.due("register", x.register(0, 1), 2);
        Check.due("steps then", x.tick(2), 1);
        Check.due("step of the other", x.tick(1), 1);
        Check.due("steps of the next round", x.tick(5), 1);
        Check.due("ticks of its slots", x.of(0, 6), 13);
        Check.due("steps of it", x.of(0, 5), 5);
    }

    private static void looking() {
        SplitKernel x = new SplitKernel(3);
        x.flow(1, 0, true);
        x.flow(0, 2, true);
        x.onFail(0, 2);
        Check.program(x, 1, Check.set(1, 31), Check.op(13, 1, 1, 0), Check.op(0, 0, 0, 0));
        Check.program(x, 0, Check.set(2, 31), Check.op(22, 4, 1, 2), Check.op(22, 5, 0, 2), Check.op(22, 4, 2, 2),
                Check.op(22, 4, 3, 2), Check.op(22, 4, 255, 2), Check.set(2, 32), Check.op(22, 4, 1, 2), Check.set(2, -1),
                Check.op(22, 4, 1, 2), Check.op(13, 4, 3, 0), Check.op(22, 6, 0, 3));
        x.slot(0, 1, 3);
        x.slot(0, 0, 12);
        x.seal();
        x.tick(5);
        Check.due("cell of one that may flow", x.register(0, 4), 31);
        x.tick(1);
        Check.due("cell of itself", x.register(0, 5), 0);
        Check.due("fails", x.of(0, 4), 0);
        x.tick(1);
        Check.due("fails by one that may not flow", x.of(0, 4), 1);
        x.tick(1);
        Check.due("fails by no domain", x.of(0, 4), 2);
        x.tick(1);
        Check.due("fails by no domain", x.of(0, 4), 3);
        x.tick(2);
        Check.due("fails by cell 32", x.of(0, 4), 4);
        x.tick(2);
        Check.due("fails by cell -1", x.of(0, 4), 5);
        Check.due("register after the fails", x.register(0, 4), 31);
        x.tick(2);
        Check.due("cell 0 of itself", x.register(0, 6), 31);
    }

    private static void unknownOperations() {
        for (int operation = 25; operation < 256; operation++) {
            SplitKernel x = Check.alone(operation);
            x.tick(1);
            Check.due("state after " + operation, x.of(0, 1), 2);
            Check.due("fails of " + operation, x.of(0, 4), 1);
            Check.due("place of " + operation, x.of(0, 0), 0);
        }
    }

    private static void behindTheProgram() {
        SplitKernel x = Check.aloneOnFail(2, Check.op(9, 0, 255, 0));
        Check.due("steps", x.tick(5), 5);
        Check.due("place", x.of(0, 0), 259);
        Check.due("fails", x.of(0, 4), 4);
        x = Check.aloneOnFail(1, Check.set(1, 2));
        Check.due("steps", x.tick(5), 5);
        Check.due("place", x.of(0, 0), 1);
        Check.due("fails", x.of(0, 4), 2);
        Check.due("register set anew", x.register(0, 1), 2);
        x.tick(1);
        Check.due("register after the fail", x.register(0, 1), 0);
        x = Check.alone();
        Check.due("steps without a program", x.tick(5), 1);
        Check.due("state", x.of(0, 1), 2);
    }

    private static void failsLeaveNothing() {
        SplitKernel x = Check.aloneOnFail(1, Check.op(19, 1, 0, 0), Check.op(18, 1, 0, 0), Check.op(255, 0, 0, 0));
        x.input(0, 5);
        x.input(0, 6);
        x.tick(3);
        Check.due("register", x.register(0, 1), 0);
        Check.due("r[7]", x.register(0, 7), 0);
        Check.due("place", x.of(0, 0), 0);
        Check.due("state", x.of(0, 1), 0);
        Check.due("inputs that wait stay", x.of(0, 2), 1);
        Check.due("outputs stay", x.of(0, 3), 1);
        Check.due("output", x.output(0, 0), 5);
        Check.due("steps stay", x.of(0, 5), 3);
        x.tick(2);
        Check.due("next output", x.output(0, 1), 6);
    }
}
