import java.lang.reflect.Array;
import java.lang.reflect.Field;

/**
 * Promise 20 and the term of being undisturbed. No run of calls brings about that it tells 0: so the kernel's insides are
 * disturbed by hand here, one thing at a time.
 */
final class UndisturbedBoundaries {
    private static final int[] NO_DOMAINS = {Integer.MIN_VALUE, -1, 2, 3, 6, Integer.MAX_VALUE};

    private UndisturbedBoundaries() {
    }

    static void all() {
        tellsOne();
        latestStays();
        refused();
        disturbedDomains();
        disturbedChannels();
        nothingOfOthers();
    }

    /** Domain 0 has sent two messages, of which domain 1 has one to take, and two more that wait, and has written a board. */
    private static SplitKernel busy() {
        SplitKernel x = Check.pair(false, 2);
        x.channel(0, 1, true, 2);
        Check.program(x, 0, Check.set(1, 2), Check.op(13, 1, 0, 0), Check.op(14, 0, 0, 1), Check.op(14, 0, 0, 1), Check.op(16, 1, 0, 0),
                Check.op(9, 0, 2, 0));
        Check.program(x, 1, Check.op(15, 0, 0, 0), Check.op(18, 7, 0, 0), Check.op(9, 0, 0, 0));
        x.slot(0, 0, 6);
        x.slot(0, 1, 2);
        x.seal();
        x.input(1, 3);
        x.input(0, 4);
        x.tick(14);
        return x;
    }

    private static void tellsOne() {
        Sentence.of("Promise 20", "Whether domain d is undisturbed, the actions being purged for it");
        SplitKernel x = busy();
        Check.due("messages to take", x.at(0, 4), 1);
        Check.due("messages that wait", x.at(0, 5), 2);
        Check.due("undisturbed(0)", x.undisturbed(0), 1);
        Check.due("undisturbed(1)", x.undisturbed(1), 1);
        x = Check.pair(false, 1);
        x.slot(0, 0, 1);
        x.seal();
        Check.due("undisturbed(0) without actions", x.undisturbed(0), 1);
        Check.due("undisturbed(1) without actions", x.undisturbed(1), 1);
        for (int i = 0; i < 8; i++) {
            x.input(1, i);
        }
        Check.due("undisturbed(1) when 8 inputs wait", x.undisturbed(1), 1);
    }

    private static void latestStays() {
        Sentence.of("Promise 20", "(the latest purge() stays as it is): 1");
        SplitKernel x = busy();
        int many = x.purge(0);
        x.tick(8);
        Check.due("undisturbed(1)", x.undisturbed(1), 1);
        Check.due("undisturbed(0)", x.undisturbed(0), 1);
        int left = 0;
        for (int i = 0; i < 16; i++) {
            left += x.kept(i);
        }
        Check.due("actions that purge() kept", left, many);
        Check.due("kept(16)", x.kept(16), -1);
        Check.due("steps of 0 by purge()", x.purged(0, 7, 0), 12);
        Check.due("steps of 1 by purge()", x.purged(1, 7, 0), 0);
    }

    private static void refused() {
        Sentence.of("Promise 20", "NONE as for purge().");
        SplitKernel x = Check.pair(false, 1);
        x.slot(0, 0, 1);
        Check.due("undisturbed(0) before sealing", x.undisturbed(0), -1);
        Check.due("undisturbed(1) before sealing", x.undisturbed(1), -1);
        x.seal();
        for (int d : NO_DOMAINS) {
            Check.due("undisturbed(" + d + ")", x.undisturbed(d), -1);
        }
        Check.due("undisturbed(1)", x.undisturbed(1), 1);
    }

    private static void disturbedDomains() {
        Sentence.of("Terms", "Domain d is UNDISTURBED, when it has there the same registers, cells, place, state, inputs that wait, outputs, fails");
        for (int k = 0; k < 8; k++) {
            dueDisturbed("register " + k, "machine", "domains", 1, "registers", k);
        }
        for (int k = 0; k < 32; k++) {
            dueDisturbed("cell " + k, "machine", "domains", 1, "cells", k);
        }
        dueDisturbed("place", "machine", "domains", 1, "place");
        dueDisturbed("state", "machine", "domains", 1, "state");
        dueDisturbed("an input that waits", "machine", "domains", 1, "inputs", "items", 0);
        dueDisturbed("how many inputs wait", "machine", "domains", 1, "inputs", "size");
        dueDisturbed("an output", "machine", "domains", 1, "outputs", "items", 0);
        dueDisturbed("how many outputs", "machine", "domains", 1, "outputs", "size");
        dueDisturbed("fails", "machine", "domains", 1, "fails");
    }

    private static void disturbedChannels() {
        Sentence.of("Terms", "messages to take, and the same that waits, and that its boards to see show, with their ages.");
        dueDisturbed("messages to take", "machine", "channels", 0, "toTake", "next");
        dueDisturbed("how long one to take is", "machine", "channels", 0, "toTake", "records", 5);
        dueDisturbed("an int of one to take", "machine", "channels", 0, "toTake", "records", 7);
        dueDisturbed("messages that wait", "machine", "channels", 0, "waiting", "next");
        dueDisturbed("how long the second that waits is", "machine", "channels", 0, "waiting", "records", 5);
        dueDisturbed("an int of the second that waits", "machine", "channels", 0, "waiting", "records", 7);
        dueDisturbed("what a board shows", "machine", "channels", 1, "shown", 0);
        dueDisturbed("what a board shows last", "machine", "channels", 1, "shown", 1);
        dueDisturbed("age of a board", "machine", "channels", 1, "writtenAt");
    }

    private static void dueDisturbed(String what, Object... path) {
        Sentence.of("Promise 20", "it would tell 0.");
        SplitKernel x = busy();
        oneMore(x, path);
        Check.due("undisturbed(1) with another " + what, x.undisturbed(1), 0);
    }

    /** What domain 1 has and sees is nothing to domain 0, which none may flow to. */
    private static void nothingOfOthers() {
        Sentence.of("Promise 20", "Whether domain d is undisturbed");
        SplitKernel x = busy();
        oneMore(x, "machine", "domains", 1, "registers", 0);
        oneMore(x, "machine", "domains", 1, "place");
        oneMore(x, "machine", "channels", 0, "toTake", "next");
        oneMore(x, "machine", "channels", 1, "shown", 0);
        Check.due("undisturbed(0) with others disturbed", x.undisturbed(0), 1);
        Check.due("undisturbed(1)", x.undisturbed(1), 0);
    }

    /** Adds 1 to a number inside: by names of fields and by numbers in arrays. */
    private static void oneMore(SplitKernel x, Object... path) {
        Object at = x;
        for (int i = 0; i < path.length - 1; i++) {
            at = path[i] instanceof Integer k ? Array.get(at, k) : valueOf(at, (String) path[i]);
        }
        Object last = path[path.length - 1];
        try {
            if (last instanceof Integer k) {
                Array.setInt(at, k, Array.getInt(at, k) + 1);
            } else {
                Field field = fieldOf(at, (String) last);
                field.setInt(at, field.getInt(at) + 1);
            }
        } catch (IllegalAccessException e) {
            throw new IllegalStateException(e);
        }
    }

    private static Object valueOf(Object of, String name) {
        try {
            return fieldOf(of, name).get(of);
        } catch (IllegalAccessException e) {
            throw new IllegalStateException(e);
        }
    }

    private static Field fieldOf(Object of, String name) {
        try {
            Field field = of.getClass().getDeclaredField(name);
            field.setAccessible(true);
            return field;
        } catch (NoSuchFieldException e) {
            throw new IllegalStateException("the insides were changed: this test must follow", e);
        }
    }
}
