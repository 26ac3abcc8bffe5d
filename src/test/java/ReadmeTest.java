/** The example of README.md answers what is written beside it. */
public final class ReadmeTest {
    public static void main(String[] args) {
        SplitKernel k = new SplitKernel(2);
        k.flow(0, 1, true);
        int queue = k.channel(0, 1, false, 1);
        k.code(0, 19);
        k.code(0, 13 | 2 << 16);
        k.code(0, 1 | 1 << 8 | 1 << 16);
        k.code(0, 14 | queue << 8 | 2 << 16 | 1 << 24);
        k.code(0, 0);
        k.code(1, 15 | queue << 8);
        k.code(1, 12 | 1 << 8);
        k.code(1, 18 | 1 << 8);
        k.slot(0, 0, 5);
        k.slot(0, 1, 3);
        k.seal();
        k.input(0, 77);
        Check.due("tick(8)", k.tick(8), 8);
        Check.due("output(1, 0)", k.output(1, 0), 77);
        Check.due("purge(0)", k.purge(0), 6);
        Check.due("undisturbed(0)", k.undisturbed(0), 1);
        Check.end();
    }
}
