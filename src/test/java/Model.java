import java.util.ArrayDeque;
import java.util.ArrayList;
import java.util.Arrays;
import java.util.Deque;
import java.util.List;

/** The document once more, written for plainness alone: what the random runs are held against. */
final class Model {
    private static final class Fail extends RuntimeException {
        private static final long serialVersionUID = 1L;
    }

    private static final class Wire {
        int from;
        int to;
        boolean board;
        int size;
        Deque<List<Integer>> toTake = new ArrayDeque<>();
        Deque<List<Integer>> waiting = new ArrayDeque<>();
        int sent;
        int lost;
        List<Integer> shown = new ArrayList<>();
        int writes;
        int writtenAt;
    }

    private static final class Part {
        List<Integer> code = new ArrayList<>();
        int how;
        int[] r = new int[8];
        int[] m = new int[32];
        int place;
        int state;
        Deque<Integer> inputs = new ArrayDeque<>();
        List<Integer> outputs = new ArrayList<>();
        int fails;
        int steps;
        int ticks;
    }

    private final int d;
    private final boolean[][] may;
    private final List<Part> parts = new ArrayList<>();
    private final List<Wire> wires = new ArrayList<>();
    private final List<List<int[]>> schedules = new ArrayList<>();
    private boolean sealed;
    private int time;
    private int schedule;
    private int slot;
    private int gone;
    private int asked;
    private boolean given;
    private final List<int[]> actions = new ArrayList<>();
    private boolean[] lastKept;
    private Model last;

    Model(int domains) {
        d = domains < 2 ? 2 : domains > 6 ? 6 : domains;
        may = new boolean[d][d];
        for (int i = 0; i < d; i++) {
            may[i][i] = true;
            parts.add(new Part());
        }
        for (int i = 0; i < 3; i++) {
            schedules.add(new ArrayList<>());
        }
    }

    private boolean no(int domain) {
        return domain < 0 || domain >= d;
    }

    boolean flow(int a, int b, boolean yes) {
        if (sealed || no(a) || no(b) || a == b) {
            return false;
        }
        if (!yes && wires.stream().anyMatch(w -> w.from == a && w.to == b)) {
            return false;
        }
        may[a][b] = yes;
        return true;
    }

    int channel(int from, int to, boolean board, int size) {
        if (sealed || no(from) || no(to) || from == to || !may[from][to] || size < 1 || size > 4 || wires.size() == 12) {
            return -1;
        }
        Wire w = new Wire();
        w.from = from;
        w.to = to;
        w.board = board;
        w.size = size;
        for (int i = 0; i < size; i++) {
            w.shown.add(0);
        }
        wires.add(w);
        return wires.size() - 1;
    }

    int code(int domain, int instruction) {
        if (sealed || no(domain) || parts.get(domain).code.size() == 64) {
            return -1;
        }
        parts.get(domain).code.add(instruction);
        return parts.get(domain).code.size();
    }

    boolean onFail(int domain, int how) {
        if (sealed || no(domain) || how < 0 || how > 2) {
            return false;
        }
        parts.get(domain).how = how;
        return true;
    }

    int slot(int s, int domain, int ticks) {
        if (sealed || s < 0 || s > 2 || no(domain) || ticks < 1 || ticks > 20 || schedules.get(s).size() == 12) {
            return -1;
        }
        schedules.get(s).add(new int[] {domain, ticks});
        return schedules.get(s).size();
    }

    int seal() {
        if (sealed || schedules.get(0).isEmpty()) {
            return -1;
        }
        sealed = true;
        return 1;
    }

    int input(int domain, int v) {
        if (!sealed || no(domain) || parts.get(domain).inputs.size() == 8 || actions.size() == 3000) {
            return -1;
        }
        actions.add(new int[] {domain, 1, time, v});
        parts.get(domain).inputs.add(v);
        return parts.get(domain).inputs.size();
    }

    int tick(int n) {
        if (!sealed || n < 1 || n > 200) {
            return -1;
        }
        int steps = 0;
        for (int i = 0; i < n; i++) {
            Part p = parts.get(now()[0]);
            boolean step = p.state == 0 && (gone == 0 || !given);
            if (step && actions.size() == 3000) {
                return steps;
            }
            if (step) {
                actions.add(new int[] {now()[0], 0, time, p.place < p.code.size() ? p.code.get(p.place) : 0});
                steps++;
            }
            oneTick(step);
        }
        return steps;
    }

    private int[] now() {
        return schedules.get(schedule).get(slot);
    }

    private void oneTick(boolean step) {
        int me = now()[0];
        if (gone == 0) {
            given = false;
            for (Wire w : wires) {
                if (w.from == me) {
                    w.sent = 0;
                }
                if (w.to == me && !w.board) {
                    w.lost += w.toTake.size();
                    w.toTake = w.waiting;
                    w.waiting = new ArrayDeque<>();
                }
            }
        }
        if (step) {
            oneStep(me);
        }
        parts.get(me).ticks++;
        time++;
        gone++;
        if (gone == now()[1]) {
            gone = 0;
            slot++;
            if (slot == schedules.get(schedule).size()) {
                slot = 0;
                schedule = schedules.get(asked).isEmpty() ? 0 : asked;
            }
        }
    }

    private void oneStep(int me) {
        Part p = parts.get(me);
        p.steps++;
        try {
            if (p.place >= p.code.size()) {
                throw new Fail();
            }
            int i = p.code.get(p.place);
            p.place = perform(me, p, i & 255, i >> 8 & 255, i >> 16 & 255, i >> 24 & 255);
        } catch (Fail f) {
            p.fails++;
            if (p.how == 0) {
                p.state = 2;
            } else if (p.how == 1) {
                p.place = 0;
                p.r = new int[8];
                p.m = new int[32];
            } else {
                p.place++;
            }
        }
    }

    private int perform(int me, Part p, int op, int a, int b, int c) {
        int ra = a % 8;
        int rb = p.r[b % 8];
        int rc = p.r[c % 8];
        int next = p.place + 1;
        if (op == 0) {
            p.state = 1;
            return p.place;
        } else if (op == 1) {
            int v = b + 256 * c;
            p.r[ra] = v >= 32768 ? v - 65536 : v;
        } else if (op == 2) {
            p.r[ra] = rb;
        } else if (op == 3) {
            p.r[ra] = rb + rc;
        } else if (op == 4) {
            p.r[ra] = rb - rc;
        } else if (op == 5) {
            p.r[ra] = rb * rc;
        } else if (op == 6) {
            p.r[ra] = rb & rc;
        } else if (op == 7) {
            p.r[ra] = rb ^ rc;
        } else if (op == 8) {
            p.r[ra] = rb < rc ? 1 : 0;
        } else if (op == 9 || op == 10 && p.r[ra] == 0 || op == 11 && p.r[ra] != 0) {
            return b;
        } else if (op == 12) {
            p.r[ra] = p.m[good(rb)];
        } else if (op == 13) {
            p.m[good(rb)] = p.r[ra];
        } else if (op >= 14 && op <= 17) {
            overWire(me, p, op, a, rb, rc);
        } else if (op == 18) {
            if (p.outputs.size() == 200) {
                throw new Fail();
            }
            p.outputs.add(p.r[ra]);
        } else if (op == 19) {
            boolean is = !p.inputs.isEmpty();
            if (is) {
                p.r[ra] = p.inputs.remove();
            }
            p.r[7] = is ? 1 : 0;
        } else if (op == 20) {
            p.r[ra] = time;
        } else if (op == 21) {
            given = true;
        } else if (op == 22) {
            if (no(b) || !may[b][me]) {
                throw new Fail();
            }
            p.r[ra] = parts.get(b).m[good(rc)];
        } else if (op == 23) {
            if (a > 2 || reigns(me) == 0) {
                throw new Fail();
            }
            asked = a;
        } else if (op == 24) {
            p.r[ra] = now()[1] - gone;
        } else if (op > 24) {
            throw new Fail();
        }
        return next;
    }

    private static int good(int cell) {
        if (cell < 0 || cell > 31) {
            throw new Fail();
        }
        return cell;
    }

    private void overWire(int me, Part p, int op, int a, int rb, int rc) {
        if (a >= wires.size()) {
            throw new Fail();
        }
        Wire w = wires.get(a);
        if (w.board != op >= 16 || me != (op % 2 == 0 ? w.from : w.to)) {
            throw new Fail();
        }
        if (op == 14) {
            if (rc < 1 || rc > 4) {
                throw new Fail();
            }
            List<Integer> message = copied(p, rb, rc);
            p.r[7] = w.sent < w.size ? 1 : 0;
            if (w.sent < w.size) {
                w.waiting.add(message);
                w.sent++;
            }
        } else if (op == 15) {
            if (w.toTake.isEmpty()) {
                p.r[7] = -1;
            } else {
                paste(p, rb, w.toTake.peek());
                p.r[7] = w.toTake.remove().size();
            }
        } else if (op == 16) {
            w.shown = copied(p, rb, w.size);
            w.writes++;
            w.writtenAt = time;
        } else {
            paste(p, rb, w.shown);
            p.r[7] = age(w);
        }
    }

    private static List<Integer> copied(Part p, int first, int many) {
        List<Integer> row = new ArrayList<>();
        for (int k = first; k < first + many; k++) {
            row.add(p.m[good(k)]);
        }
        return row;
    }

    private static void paste(Part p, int first, List<Integer> row) {
        for (int k = 0; k < row.size(); k++) {
            good(first + k);
        }
        for (int k = 0; k < row.size(); k++) {
            p.m[first + k] = row.get(k);
        }
    }

    private int age(Wire w) {
        return w.writes == 0 ? -1 : time - w.writtenAt;
    }

    private int reigns(int domain) {
        for (boolean yes : may[domain]) {
            if (!yes) {
                return 0;
            }
        }
        return 1;
    }

    private static int in(int[] row, int k) {
        return k < 0 || k >= row.length ? 0 : row[k];
    }

    int register(int domain, int k) {
        return no(domain) ? 0 : in(parts.get(domain).r, k);
    }

    int cell(int domain, int k) {
        return no(domain) ? 0 : in(parts.get(domain).m, k);
    }

    int output(int domain, int i) {
        return no(domain) || i < 0 || i >= parts.get(domain).outputs.size() ? 0 : parts.get(domain).outputs.get(i);
    }

    int of(int domain, int what) {
        if (no(domain) || what < 0 || what > 7) {
            return -1;
        }
        Part p = parts.get(domain);
        return new int[] {p.place, p.state, p.inputs.size(), p.outputs.size(), p.fails, p.steps, p.ticks, reigns(domain)}[what];
    }

    int at(int channel, int what) {
        if (channel < 0 || channel >= wires.size() || what < 0 || what > 8) {
            return -1;
        }
        Wire w = wires.get(channel);
        return new int[] {w.from, w.to, w.board ? 1 : 0, w.size, w.toTake.size(), w.waiting.size(), w.lost, w.writes,
            w.board ? age(w) : 0}[what];
    }

    int told(int what) {
        if (what < 0 || what > 9) {
            return -1;
        }
        return new int[] {time, actions.size(), sealed ? now()[0] : -1, slot, schedule, sealed ? now()[1] - gone : 0, asked,
            wires.size(), d, sealed ? 1 : 0}[what];
    }

    int action(int i, int what) {
        return i < 0 || i >= actions.size() ? 0 : in(actions.get(i), what);
    }

    private boolean[] keptFor(int domain) {
        boolean[] kept = new boolean[actions.size()];
        boolean[] source = new boolean[d];
        source[domain] = true;
        for (int i = actions.size() - 1; i >= 0; i--) {
            int by = actions.get(i)[0];
            for (int s = 0; s < d; s++) {
                kept[i] |= source[s] && may[by][s];
            }
            source[by] |= kept[i];
        }
        return kept;
    }

    private Model redone(boolean[] kept) {
        Model x = new Model(d);
        for (int i = 0; i < d; i++) {
            x.may[i] = may[i].clone();
            x.parts.get(i).code = parts.get(i).code;
            x.parts.get(i).how = parts.get(i).how;
        }
        for (Wire w : wires) {
            x.channel(w.from, w.to, w.board, w.size);
        }
        for (int s = 0; s < 3; s++) {
            x.schedules.get(s).addAll(schedules.get(s));
        }
        x.seal();
        int i = 0;
        for (int t = 0; t <= time; t++) {
            for (; i < actions.size() && actions.get(i)[2] == t && actions.get(i)[1] == 1; i++) {
                if (kept[i]) {
                    x.parts.get(actions.get(i)[0]).inputs.add(actions.get(i)[3]);
                }
            }
            if (t < time) {
                boolean was = i < actions.size() && actions.get(i)[2] == t;
                x.oneTick(was && kept[i]);
                i += was ? 1 : 0;
            }
        }
        return x;
    }

    int purge(int domain) {
        if (!sealed || no(domain)) {
            return -1;
        }
        lastKept = keptFor(domain);
        last = redone(lastKept);
        int many = 0;
        for (boolean is : lastKept) {
            many += is ? 1 : 0;
        }
        return many;
    }

    int kept(int i) {
        return lastKept == null || i < 0 || i >= lastKept.length ? -1 : lastKept[i] ? 1 : 0;
    }

    int purged(int domain, int what, int k) {
        if (last == null || no(domain) || what < 0 || what > 7) {
            return 0;
        }
        int[] of = {0, 0, 0, 0, 1, 3, 4, 5};
        return what == 0 ? last.register(domain, k) : what == 1 ? last.cell(domain, k) : what == 2 ? last.output(domain, k)
                : last.of(domain, of[what]);
    }

    /** All that a domain sees, as a text. */
    private String view(int domain) {
        Part p = parts.get(domain);
        StringBuilder text = new StringBuilder(Arrays.toString(p.r) + Arrays.toString(p.m));
        text.append(p.place).append(' ').append(p.state).append(p.inputs).append(p.outputs).append(p.fails);
        for (Wire w : wires) {
            if (w.to == domain) {
                text.append(w.toTake).append(w.waiting).append(w.shown).append(age(w));
            }
        }
        return text.toString();
    }

    int undisturbed(int domain) {
        if (!sealed || no(domain)) {
            return -1;
        }
        return view(domain).equals(redone(keptFor(domain)).view(domain)) ? 1 : 0;
    }
}
