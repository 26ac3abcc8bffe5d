import java.util.Arrays;

/** A kernel that keeps domains apart on one processor; ../shared/DOC.md tells what it promises. */
public final class SplitKernel {
    public static final int NONE = -1;

    private static final int FEWEST_DOMAINS = 2;
    private static final int MOST_DOMAINS = 6;
    private static final int REGISTERS = 8;
    private static final int CELLS = 32;
    private static final int MOST_INSTRUCTIONS = 64;
    private static final int MOST_INPUTS = 8;
    private static final int MOST_OUTPUTS = 200;
    private static final int MOST_CHANNELS = 12;
    private static final int MOST_SIZE = 4;
    private static final int MOST_WORDS = 4;
    private static final int SCHEDULES = 3;
    private static final int MOST_SLOTS = 12;
    private static final int LONGEST_SLOT = 20;
    private static final int MOST_TICKS = 200;
    private static final int MOST_ACTIONS = 3000;

    private static final int GOES_ON = 0;
    private static final int STOPPED = 1;
    private static final int FAILED = 2;

    private static final int FAIL_RESTARTS = 1;
    private static final int FAIL_SKIPS = 2;

    private final Plan plan;
    private final Machine machine;
    private final Actions actions;
    private Purge latest;
    private Purge trial;

    public SplitKernel(int domains) {
        plan = new Plan(Math.max(FEWEST_DOMAINS, Math.min(MOST_DOMAINS, domains)));
        machine = new Machine(plan);
        actions = new Actions();
    }

    public boolean flow(int a, int b, boolean may) {
        if (plan.isSealed || !plan.hasDomain(a) || !plan.hasDomain(b) || a == b) {
            return false;
        }
        if (!may && plan.hasLink(a, b)) {
            return false;
        }
        plan.setFlow(a, b, may);
        return true;
    }

    public int channel(int from, int to, boolean board, int size) {
        if (plan.isSealed || !plan.hasDomain(from) || !plan.hasDomain(to) || from == to) {
            return NONE;
        }
        if (!plan.mayFlow(from, to) || size < 1 || size > MOST_SIZE || plan.linkCount == MOST_CHANNELS) {
            return NONE;
        }
        Link link = new Link(from, to, board, size);
        plan.links[plan.linkCount] = link;
        machine.channels[plan.linkCount] = new Channel(link);
        plan.linkCount++;
        return plan.linkCount - 1;
    }

    public int code(int domain, int instruction) {
        if (plan.isSealed || !plan.hasDomain(domain) || plan.programs[domain].size == MOST_INSTRUCTIONS) {
            return NONE;
        }
        plan.programs[domain].add(instruction);
        return plan.programs[domain].size;
    }

    public boolean onFail(int domain, int how) {
        if (plan.isSealed || !plan.hasDomain(domain) || how < 0 || how > FAIL_SKIPS) {
            return false;
        }
        plan.failRules[domain] = how;
        return true;
    }

    public int slot(int schedule, int domain, int ticks) {
        if (plan.isSealed || !isSchedule(schedule) || !plan.hasDomain(domain)) {
            return NONE;
        }
        if (ticks < 1 || ticks > LONGEST_SLOT || plan.slotTicks[schedule].size == MOST_SLOTS) {
            return NONE;
        }
        plan.slotDomains[schedule].add(domain);
        plan.slotTicks[schedule].add(ticks);
        return plan.slotTicks[schedule].size;
    }

    public int seal() {
        if (plan.isSealed || plan.slotTicks[0].size == 0) {
            return NONE;
        }
        plan.isSealed = true;
        machine.clock.start();
        return 1;
    }

    public int input(int domain, int v) {
        if (!plan.isSealed || !plan.hasDomain(domain) || actions.count() == MOST_ACTIONS) {
            return NONE;
        }
        Row inputs = machine.domains[domain].inputs;
        if (inputs.size == MOST_INPUTS) {
            return NONE;
        }
        actions.add(domain, true, machine.clock.time, v);
        inputs.add(v);
        return inputs.size;
    }

    public int tick(int n) {
        if (!plan.isSealed || n < 1 || n > MOST_TICKS) {
            return NONE;
        }
        int steps = 0;
        for (int i = 0; i < n; i++) {
            boolean withStep = machine.stepIsDue();
            if (withStep && actions.count() == MOST_ACTIONS) {
                break;
            }
            if (withStep) {
                actions.add(machine.clock.slotDomain(), false, machine.clock.time, machine.dueInstruction());
                machine.passWithStep();
                steps++;
            } else {
                machine.passIdle();
            }
        }
        return steps;
    }

    public int register(int domain, int k) {
        return plan.hasDomain(domain) ? machine.domains[domain].registerOrZero(k) : 0;
    }

    public int cell(int domain, int k) {
        return plan.hasDomain(domain) ? machine.domains[domain].cellOrZero(k) : 0;
    }

    public int of(int domain, int what) {
        if (!plan.hasDomain(domain)) {
            return NONE;
        }
        Domain it = machine.domains[domain];
        switch (what) {
            case 0: return it.place;
            case 1: return it.state;
            case 2: return it.inputs.size;
            case 3: return it.outputs.size;
            case 4: return it.fails;
            case 5: return it.steps;
            case 6: return it.ticks;
            case 7: return plan.reigns(domain) ? 1 : 0;
            default: return NONE;
        }
    }

    public int output(int domain, int i) {
        return plan.hasDomain(domain) ? machine.domains[domain].outputs.get(i) : 0;
    }

    public int at(int channel, int what) {
        if (channel < 0 || channel >= plan.linkCount) {
            return NONE;
        }
        Channel it = machine.channels[channel];
        switch (what) {
            case 0: return it.link.from;
            case 1: return it.link.to;
            case 2: return it.link.isBoard ? 1 : 0;
            case 3: return it.link.size;
            case 4: return it.toTake.left();
            case 5: return it.waiting.left();
            case 6: return it.lost;
            case 7: return it.writes;
            case 8: return it.link.isBoard ? it.age(machine.clock.time) : 0;
            default: return NONE;
        }
    }

    public int told(int what) {
        Clock clock = machine.clock;
        switch (what) {
            case 0: return clock.time;
            case 1: return actions.count();
            case 2: return plan.isSealed ? clock.slotDomain() : NONE;
            case 3: return clock.number;
            case 4: return clock.schedule;
            case 5: return clock.left;
            case 6: return clock.asked;
            case 7: return plan.linkCount;
            case 8: return plan.domainCount;
            case 9: return plan.isSealed ? 1 : 0;
            default: return NONE;
        }
    }

    public int action(int i, int what) {
        switch (what) {
            case 0: return actions.domains.get(i);
            case 1: return actions.inputMarks.get(i);
            case 2: return actions.times.get(i);
            case 3: return actions.values.get(i);
            default: return 0;
        }
    }

    public int purge(int domain) {
        if (!plan.isSealed || !plan.hasDomain(domain)) {
            return NONE;
        }
        if (latest == null) {
            latest = new Purge(plan);
        }
        latest.choose(actions, domain);
        latest.redo(actions, machine.clock.time);
        return latest.keptCount;
    }

    public int kept(int i) {
        if (latest == null || i < 0 || i >= latest.actionCount) {
            return NONE;
        }
        return latest.isKept[i] ? 1 : 0;
    }

    public int purged(int domain, int what, int k) {
        if (latest == null || !plan.hasDomain(domain)) {
            return 0;
        }
        Domain it = latest.machine.domains[domain];
        switch (what) {
            case 0: return it.registerOrZero(k);
            case 1: return it.cellOrZero(k);
            case 2: return it.outputs.get(k);
            case 3: return it.place;
            case 4: return it.state;
            case 5: return it.outputs.size;
            case 6: return it.fails;
            case 7: return it.steps;
            default: return 0;
        }
    }

    public int undisturbed(int domain) {
        if (!plan.isSealed || !plan.hasDomain(domain)) {
            return NONE;
        }
        if (trial == null) {
            trial = new Purge(plan);
        }
        trial.choose(actions, domain);
        trial.redo(actions, machine.clock.time);
        return machine.looksSameTo(domain, trial.machine) ? 1 : 0;
    }

    private static boolean isSchedule(int schedule) {
        return schedule >= 0 && schedule < SCHEDULES;
    }

    private static int operation(int instruction) {
        return instruction & 255;
    }

    private static int partA(int instruction) {
        return (instruction >>> 8) & 255;
    }

    private static int partB(int instruction) {
        return (instruction >>> 16) & 255;
    }

    private static int partC(int instruction) {
        return instruction >>> 24;
    }

    /** Ints in order; emptying keeps the room, so that a purge done again makes nothing new. */
    private static final class Row {
        private int[] items;
        private int size;

        Row(int room) {
            items = new int[Math.max(1, room)];
        }

        void add(int v) {
            if (size == items.length) {
                items = Arrays.copyOf(items, 2 * size);
            }
            items[size] = v;
            size++;
        }

        int get(int i) {
            return i >= 0 && i < size ? items[i] : 0;
        }

        void removeFirst() {
            if (size > 0) {
                System.arraycopy(items, 1, items, 0, size - 1);
                size--;
            }
        }

        void clear() {
            size = 0;
        }

        boolean isSame(Row other) {
            if (size != other.size) {
                return false;
            }
            for (int i = 0; i < size; i++) {
                if (items[i] != other.items[i]) {
                    return false;
                }
            }
            return true;
        }
    }

    /** Messages in order, each in a record of one length: how many ints it has, then these. */
    private static final class Messages {
        private static final int RECORD = MOST_WORDS + 1;

        private int[] records;
        private int count;
        private int next;

        Messages(int room) {
            records = new int[RECORD * Math.max(1, room)];
        }

        int left() {
            return count - next;
        }

        void add(int[] cells, int first, int words) {
            int start = RECORD * count;
            if (start == records.length) {
                records = Arrays.copyOf(records, 2 * start);
            }
            records[start] = words;
            System.arraycopy(cells, first, records, start + 1, words);
            count++;
        }

        int nextWords() {
            return next < count ? records[RECORD * next] : 0;
        }

        void takeInto(int[] cells, int first) {
            if (next < count) {
                System.arraycopy(records, RECORD * next + 1, cells, first, records[RECORD * next]);
                next++;
            }
        }

        void clear() {
            count = 0;
            next = 0;
        }

        boolean isSame(Messages other) {
            if (left() != other.left()) {
                return false;
            }
            for (int i = 0; i < left(); i++) {
                if (!isSameRecord(RECORD * (next + i), other, RECORD * (other.next + i))) {
                    return false;
                }
            }
            return true;
        }

        private boolean isSameRecord(int start, Messages other, int otherStart) {
            // What stands behind a short message is left over from older ones and tells nothing.
            for (int i = 0; i <= records[start]; i++) {
                if (records[start + i] != other.records[otherStart + i]) {
                    return false;
                }
            }
            return true;
        }
    }

    /** What is fixed of a channel. */
    private static final class Link {
        private final int from;
        private final int to;
        private final boolean isBoard;
        private final int size;

        Link(int from, int to, boolean isBoard, int size) {
            this.from = from;
            this.to = to;
            this.isBoard = isBoard;
            this.size = size;
        }
    }

    /** All that sealing makes fast: a purged kernel shares it with the one it is purged from. */
    private static final class Plan {
        private final int domainCount;
        private final int[] flowBits;
        private final Link[] links;
        private int linkCount;
        private final Row[] programs;
        private final int[] failRules;
        private final Row[] slotDomains;
        private final Row[] slotTicks;
        private boolean isSealed;

        Plan(int domainCount) {
            this.domainCount = domainCount;
            flowBits = new int[domainCount];
            programs = new Row[domainCount];
            failRules = new int[domainCount];
            for (int d = 0; d < domainCount; d++) {
                flowBits[d] = 1 << d;
                programs[d] = new Row(8);
            }
            links = new Link[MOST_CHANNELS];
            slotDomains = new Row[SCHEDULES];
            slotTicks = new Row[SCHEDULES];
            for (int s = 0; s < SCHEDULES; s++) {
                slotDomains[s] = new Row(4);
                slotTicks[s] = new Row(4);
            }
        }

        boolean hasDomain(int d) {
            return d >= 0 && d < domainCount;
        }

        boolean mayFlow(int a, int b) {
            return (flowBits[a] & (1 << b)) != 0;
        }

        void setFlow(int a, int b, boolean may) {
            flowBits[a] = may ? flowBits[a] | (1 << b) : flowBits[a] & ~(1 << b);
        }

        boolean reigns(int d) {
            return flowBits[d] == (1 << domainCount) - 1;
        }

        boolean hasLink(int from, int to) {
            for (int i = 0; i < linkCount; i++) {
                if (links[i].from == from && links[i].to == to) {
                    return true;
                }
            }
            return false;
        }
    }

    /** Which tick comes next: its time, and where it stands in the schedules. */
    private static final class Clock {
        private final Plan plan;
        private int time;
        private int schedule;
        private int number;
        private int left;
        private int asked;

        Clock(Plan plan) {
            this.plan = plan;
        }

        void start() {
            time = 0;
            schedule = 0;
            number = 0;
            left = plan.slotTicks[0].get(0);
            asked = 0;
        }

        int slotDomain() {
            return plan.slotDomains[schedule].get(number);
        }

        boolean beginsSlot() {
            return left == plan.slotTicks[schedule].get(number);
        }

        void advance() {
            time++;
            left--;
            if (left > 0) {
                return;
            }
            number++;
            if (number >= plan.slotTicks[schedule].size) {
                schedule = plan.slotTicks[asked].size > 0 ? asked : 0;
                number = 0;
            }
            left = plan.slotTicks[schedule].get(number);
        }
    }

    /** What has come of a channel so far. */
    private static final class Channel {
        private final Link link;
        private Messages toTake;
        private Messages waiting;
        private int sentInSlot;
        private int lost;
        private final int[] shown;
        private int writes;
        private int writtenAt;

        Channel(Link link) {
            this.link = link;
            int room = link.isBoard ? 1 : link.size;
            toTake = new Messages(room);
            waiting = new Messages(room);
            shown = new int[link.size];
        }

        void reset() {
            toTake.clear();
            waiting.clear();
            sentInSlot = 0;
            lost = 0;
            Arrays.fill(shown, 0);
            writes = 0;
            writtenAt = 0;
        }

        void handOver() {
            lost += toTake.left();
            Messages emptied = toTake;
            emptied.clear();
            toTake = waiting;
            waiting = emptied;
        }

        int age(int time) {
            return writes == 0 ? NONE : time - writtenAt;
        }

        boolean looksSame(Channel other, int time) {
            if (!link.isBoard) {
                return toTake.isSame(other.toTake) && waiting.isSame(other.waiting);
            }
            for (int i = 0; i < shown.length; i++) {
                if (shown[i] != other.shown[i]) {
                    return false;
                }
            }
            return age(time) == other.age(time);
        }
    }

    /** A domain's own state, and the operations that touch nothing else. */
    private static final class Domain {
        private final int[] registers;
        private final int[] cells;
        private final Row inputs;
        private final Row outputs;
        private int place;
        private int state;
        private int fails;
        private int steps;
        private int ticks;

        Domain() {
            registers = new int[REGISTERS];
            cells = new int[CELLS];
            inputs = new Row(MOST_INPUTS);
            outputs = new Row(8);
        }

        void reset() {
            clearMemory();
            inputs.clear();
            outputs.clear();
            state = GOES_ON;
            fails = 0;
            steps = 0;
            ticks = 0;
        }

        void clearMemory() {
            place = 0;
            Arrays.fill(registers, 0);
            Arrays.fill(cells, 0);
        }

        int registerOrZero(int k) {
            return k >= 0 && k < REGISTERS ? registers[k] : 0;
        }

        int cellOrZero(int k) {
            return hasCells(k, 1) ? cells[k] : 0;
        }

        static boolean hasCells(int first, int many) {
            return first >= 0 && first <= CELLS - many;
        }

        int read(int part) {
            return registers[part % REGISTERS];
        }

        void write(int part, int v) {
            registers[part % REGISTERS] = v;
        }

        void report(int v) {
            registers[REGISTERS - 1] = v;
        }

        boolean performAlone(int instruction) {
            int a = partA(instruction);
            int b = read(partB(instruction));
            switch (operation(instruction)) {
                case 0:
                    state = STOPPED;
                    return true;
                case 9: case 10: case 11:
                    // A jump is all in placeAfter.
                    return true;
                case 12:
                    return load(a, b);
                case 13:
                    return store(b, read(a));
                case 18:
                    return putOut(read(a));
                case 19:
                    takeInput(a);
                    return true;
                default:
                    write(a, computed(instruction));
                    return true;
            }
        }

        int computed(int instruction) {
            int b = read(partB(instruction));
            int c = read(partC(instruction));
            switch (operation(instruction)) {
                // b and c are the upper half: the shift keeps its sign, as the constant has one.
                case 1: return instruction >> 16;
                case 2: return b;
                case 3: return b + c;
                case 4: return b - c;
                case 5: return b * c;
                case 6: return b & c;
                case 7: return b ^ c;
                default: return b < c ? 1 : 0;
            }
        }

        boolean load(int part, int k) {
            if (!hasCells(k, 1)) {
                return false;
            }
            write(part, cells[k]);
            return true;
        }

        boolean store(int k, int v) {
            if (!hasCells(k, 1)) {
                return false;
            }
            cells[k] = v;
            return true;
        }

        boolean putOut(int v) {
            if (outputs.size == MOST_OUTPUTS) {
                return false;
            }
            outputs.add(v);
            return true;
        }

        void takeInput(int part) {
            if (inputs.size == 0) {
                report(0);
                return;
            }
            write(part, inputs.get(0));
            inputs.removeFirst();
            report(1);
        }

        int placeAfter(int instruction) {
            int a = read(partA(instruction));
            int b = partB(instruction);
            switch (operation(instruction)) {
                case 0: return place;
                case 9: return b;
                case 10: return a == 0 ? b : place + 1;
                case 11: return a != 0 ? b : place + 1;
                default: return place + 1;
            }
        }

        void fail(int rule) {
            fails++;
            if (rule == FAIL_RESTARTS) {
                clearMemory();
            } else if (rule == FAIL_SKIPS) {
                place++;
            } else {
                state = FAILED;
            }
        }

        boolean isSame(Domain other) {
            if (place != other.place || state != other.state || fails != other.fails) {
                return false;
            }
            for (int k = 0; k < REGISTERS; k++) {
                if (registers[k] != other.registers[k]) {
                    return false;
                }
            }
            for (int k = 0; k < CELLS; k++) {
                if (cells[k] != other.cells[k]) {
                    return false;
                }
            }
            return inputs.isSame(other.inputs) && outputs.isSame(other.outputs);
        }
    }

    /** The domains, the channels and the clock of one kernel, the real one or a purged one. */
    private static final class Machine {
        private final Plan plan;
        private final Domain[] domains;
        private final Channel[] channels;
        private final Clock clock;
        private boolean givenAway;

        Machine(Plan plan) {
            this.plan = plan;
            domains = new Domain[plan.domainCount];
            for (int d = 0; d < plan.domainCount; d++) {
                domains[d] = new Domain();
            }
            channels = new Channel[MOST_CHANNELS];
            for (int i = 0; i < plan.linkCount; i++) {
                channels[i] = new Channel(plan.links[i]);
            }
            clock = new Clock(plan);
        }

        void reset() {
            for (int d = 0; d < plan.domainCount; d++) {
                domains[d].reset();
            }
            for (int i = 0; i < plan.linkCount; i++) {
                channels[i].reset();
            }
            clock.start();
            givenAway = false;
        }

        boolean stepIsDue() {
            // Asked before the tick is begun, when a gift of the slot before may still stand.
            boolean isGiven = givenAway && !clock.beginsSlot();
            return domains[clock.slotDomain()].state == GOES_ON && !isGiven;
        }

        int dueInstruction() {
            int d = clock.slotDomain();
            return plan.programs[d].get(domains[d].place);
        }

        void passWithStep() {
            beginTick();
            makeStep(clock.slotDomain());
            endTick();
        }

        void passIdle() {
            beginTick();
            endTick();
        }

        void passIdleUntil(int time) {
            for (int t = clock.time; t < time; t++) {
                passIdle();
            }
        }

        void beginTick() {
            if (!clock.beginsSlot()) {
                return;
            }
            givenAway = false;
            int d = clock.slotDomain();
            for (int i = 0; i < plan.linkCount; i++) {
                Channel channel = channels[i];
                if (channel.link.from == d) {
                    channel.sentInSlot = 0;
                }
                if (channel.link.to == d) {
                    channel.handOver();
                }
            }
        }

        void endTick() {
            domains[clock.slotDomain()].ticks++;
            clock.advance();
        }

        void makeStep(int d) {
            Domain me = domains[d];
            me.steps++;
            int instruction = dueInstruction();
            boolean isDone = false;
            if (me.place < plan.programs[d].size) {
                isDone = isAlone(operation(instruction)) ? me.performAlone(instruction) : performShared(d, instruction);
            }
            if (isDone) {
                me.place = me.placeAfter(instruction);
            } else {
                me.fail(plan.failRules[d]);
            }
        }

        static boolean isAlone(int operation) {
            return operation <= 13 || operation == 18 || operation == 19;
        }

        boolean performShared(int d, int instruction) {
            int a = partA(instruction);
            switch (operation(instruction)) {
                case 14: return send(d, instruction);
                case 15: return take(d, instruction);
                case 16: return writeBoard(d, instruction);
                case 17: return seeBoard(d, instruction);
                case 20:
                    domains[d].write(a, clock.time);
                    return true;
                case 21:
                    givenAway = true;
                    return true;
                case 22: return look(d, instruction);
                case 23: return ask(d, a);
                case 24:
                    domains[d].write(a, clock.left);
                    return true;
                default: return false;
            }
        }

        /** Channel i if there is one and it is of the kind, else null. */
        Channel channelOfKind(int i, boolean isBoard) {
            return i < plan.linkCount && plan.links[i].isBoard == isBoard ? channels[i] : null;
        }

        boolean send(int d, int instruction) {
            Domain me = domains[d];
            Channel channel = channelOfKind(partA(instruction), false);
            if (channel == null || channel.link.from != d) {
                return false;
            }
            int first = me.read(partB(instruction));
            int words = me.read(partC(instruction));
            if (words < 1 || words > MOST_WORDS || !Domain.hasCells(first, words)) {
                return false;
            }
            if (channel.sentInSlot == channel.link.size) {
                me.report(0);
                return true;
            }
            channel.sentInSlot++;
            channel.waiting.add(me.cells, first, words);
            me.report(1);
            return true;
        }

        boolean take(int d, int instruction) {
            Domain me = domains[d];
            Channel channel = channelOfKind(partA(instruction), false);
            if (channel == null || channel.link.to != d) {
                return false;
            }
            if (channel.toTake.left() == 0) {
                // No cell is named then, so none can be wrong.
                me.report(NONE);
                return true;
            }
            int first = me.read(partB(instruction));
            int words = channel.toTake.nextWords();
            if (!Domain.hasCells(first, words)) {
                return false;
            }
            channel.toTake.takeInto(me.cells, first);
            me.report(words);
            return true;
        }

        boolean writeBoard(int d, int instruction) {
            Domain me = domains[d];
            Channel channel = channelOfKind(partA(instruction), true);
            int first = me.read(partB(instruction));
            if (channel == null || channel.link.from != d || !Domain.hasCells(first, channel.link.size)) {
                return false;
            }
            System.arraycopy(me.cells, first, channel.shown, 0, channel.link.size);
            channel.writes++;
            channel.writtenAt = clock.time;
            return true;
        }

        boolean seeBoard(int d, int instruction) {
            Domain me = domains[d];
            Channel channel = channelOfKind(partA(instruction), true);
            int first = me.read(partB(instruction));
            if (channel == null || channel.link.to != d || !Domain.hasCells(first, channel.link.size)) {
                return false;
            }
            System.arraycopy(channel.shown, 0, me.cells, first, channel.link.size);
            me.report(channel.age(clock.time));
            return true;
        }

        boolean look(int d, int instruction) {
            int other = partB(instruction);
            int k = domains[d].read(partC(instruction));
            if (!plan.hasDomain(other) || !plan.mayFlow(other, d) || !Domain.hasCells(k, 1)) {
                return false;
            }
            domains[d].write(partA(instruction), domains[other].cells[k]);
            return true;
        }

        boolean ask(int d, int schedule) {
            if (!isSchedule(schedule) || !plan.reigns(d)) {
                return false;
            }
            clock.asked = schedule;
            return true;
        }

        boolean looksSameTo(int d, Machine other) {
            if (!domains[d].isSame(other.domains[d])) {
                return false;
            }
            for (int i = 0; i < plan.linkCount; i++) {
                if (channels[i].link.to == d && !channels[i].looksSame(other.channels[i], clock.time)) {
                    return false;
                }
            }
            return true;
        }
    }

    /** The row of actions, kept as one row for each thing that is told of them. */
    private static final class Actions {
        private final Row domains;
        private final Row inputMarks;
        private final Row times;
        private final Row values;

        Actions() {
            domains = new Row(32);
            inputMarks = new Row(32);
            times = new Row(32);
            values = new Row(32);
        }

        int count() {
            return times.size;
        }

        void add(int domain, boolean isInput, int time, int value) {
            domains.add(domain);
            inputMarks.add(isInput ? 1 : 0);
            times.add(time);
            values.add(value);
        }
    }

    /** Which actions are kept for a domain, and a kernel to which they are done once more. */
    private static final class Purge {
        private final Plan plan;
        private final Machine machine;
        private boolean[] isKept;
        private int actionCount;
        private int keptCount;

        Purge(Plan plan) {
            this.plan = plan;
            machine = new Machine(plan);
            isKept = new boolean[32];
        }

        void choose(Actions actions, int domain) {
            actionCount = actions.count();
            if (isKept.length < actionCount) {
                isKept = new boolean[Math.max(actionCount, 2 * isKept.length)];
            }
            keptCount = 0;
            int sources = 1 << domain;
            for (int i = actionCount - 1; i >= 0; i--) {
                int d = actions.domains.get(i);
                isKept[i] = (plan.flowBits[d] & sources) != 0;
                if (isKept[i]) {
                    sources |= 1 << d;
                    keptCount++;
                }
            }
        }

        void redo(Actions actions, int time) {
            machine.reset();
            for (int i = 0; i < actionCount; i++) {
                if (!isKept[i]) {
                    continue;
                }
                machine.passIdleUntil(actions.times.get(i));
                if (actions.inputMarks.get(i) == 1) {
                    machine.domains[actions.domains.get(i)].inputs.add(actions.values.get(i));
                } else {
                    machine.passWithStep();
                }
            }
            machine.passIdleUntil(time);
        }
    }
}
