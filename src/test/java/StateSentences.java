/** What the document says of services, states with their culprits, and the steps that are kept. */
final class StateSentences {

    private static final int MIN = Integer.MIN_VALUE;
    private static final int MAX = Integer.MAX_VALUE;
    private static final int SIZE = 131072;

    private final Sentences s;

    StateSentences(Sentences s) {
        this.s = s;
    }

    void all() {
        put();
        putWithoutRoom();
        getTakesTheNext();
        getWithoutOne();
        clock();
        end();
        otherServices();
        ready();
        whatFailsIsNotDone();
        fetchTellsTheFirst();
        fetchOfALongWord();
        illegal();
        loadIsNoMultiple();
        loadWithoutTheRight();
        storeLikewise();
        wild();
        breaksServicesAndEnds();
        halted();
        whatCounts();
        endsDoNothingMore();
        lastHundredAreKept();
        keptAreThoseThatCount();
        keptRegistersAndMemory();
        keptOutputAndInput();
        keptStates();
        keptCounts();
        otherCallsForget();
        refusedCallsForgetNone();
        callsThatAskForgetNone();
        none();
    }

    private static StepMachine serving(int service, int x10, int times) {
        int[] words = new int[times];
        for (int k = 0; k < times; k++) {
            words[k] = Load.ecall();
        }
        StepMachine x = Load.machine(words);
        x.set(17, service);
        x.set(10, x10);
        return x;
    }

    private void put() {
        s.says("Terms", "SERVICES, by register 17: 1 PUT: the lowest byte of register 10 comes behind OUTPUT;"
                + " register 10 becomes how many that has,");
        int[][] rows = {{0, 0}, {255, 255}, {256, 0}, {-1, 255}, {0x12345680, 0x80}, {MIN, 0}, {MAX, 255}};
        StepMachine x = serving(1, 0, rows.length);
        for (int k = 0; k < rows.length; k++) {
            x.set(10, rows[k][0]);
            s.due("PUT of " + rows[k][0] + ": step()", x.step(), 0);
            s.due("PUT: get(10)", x.get(10), k + 1);
            s.due("PUT: state(5)", x.state(5), k + 1);
            s.due("PUT: get(32)", x.get(32), 4 * k + 4);
        }
        for (int k = 0; k < rows.length; k++) {
            s.due("output(" + k + ")", x.output(k), rows[k][1]);
        }
    }

    /** Puts bytes until OUTPUT has n, its latest step the one that put the last of them. */
    private static StepMachine withOutput(int n) {
        StepMachine x = Load.machine(Load.ecall(), Load.jal(0, -4));
        x.set(17, 1);
        int left = 2 * n - 1;
        while (left > 0) {
            left -= x.run(Math.min(left, 2000));
        }
        return x;
    }

    private void putWithoutRoom() {
        s.says("Terms", "-1 if there is no room.");
        StepMachine x = withOutput(1999);
        s.due("state(5)", x.state(5), 1999);
        x.run(2);
        s.due("get(10), the last room", x.get(10), 2000);
        s.due("output(1999)", x.output(1999), 1999 & 255);
        x.step();
        x.set(10, 7);
        s.due("step() without room", x.step(), 0);
        s.due("get(10) without room", x.get(10), -1);
        s.due("get(32), it goes on", x.get(32), 4);
        s.due("state(3), it counts", x.state(3), 4001);
        s.due("state(5)", x.state(5), 2000);
        s.due("output(1999)", x.output(1999), 1999 & 255);
        s.due("output(2000)", x.output(2000), -1);
    }

    private void getTakesTheNext() {
        s.says("Terms", "2 GET: register 10 becomes the next byte of INPUT,");
        StepMachine x = serving(2, -5, 4);
        x.input(3, 0x00ff80L << 40);
        int[] want = {0, 255, 128};
        for (int k = 0; k < 3; k++) {
            s.due("GET: step()", x.step(), 0);
            s.due("GET: get(10)", x.get(10), want[k]);
            s.due("GET: state(6)", x.state(6), 2 - k);
            s.due("GET: get(32)", x.get(32), 4 * k + 4);
        }
        x.input(1, 0x42L << 56);
        x.step();
        s.due("GET of what came later", x.get(10), 0x42);
    }

    private void getWithoutOne() {
        s.says("Terms", "-1 without one.");
        StepMachine x = serving(2, 7, 4);
        s.due("GET without INPUT: step()", x.step(), 0);
        s.due("get(10)", x.get(10), -1);
        s.due("get(32), it goes on", x.get(32), 4);
        s.due("state(6)", x.state(6), 0);
        x.input(1, 0x21L << 56);
        x.step();
        s.due("get(10)", x.get(10), 0x21);
        x.step();
        s.due("get(10), all is taken", x.get(10), -1);
        s.due("state(6)", x.state(6), 0);
    }

    private void clock() {
        s.says("Terms", "3 CLOCK: register 10 becomes how many STEPS there were ahead of this one.");
        StepMachine x = serving(3, 7, 4);
        s.due("CLOCK: step()", x.step(), 0);
        s.due("the first step: get(10)", x.get(10), 0);
        x.step();
        s.due("the second step: get(10)", x.get(10), 1);
        s.due("get(32)", x.get(32), 8);
        x.back(1);
        x.step();
        s.due("the second step again: get(10)", x.get(10), 1);
        x.set(32, 4094);
        s.due("one that FAILS is no step", x.step(), 2);
        x.set(33, 0);
        x.set(32, 0);
        x.step();
        s.due("the third step: get(10)", x.get(10), 2);
    }

    private void end() {
        s.says("Terms", "10 END: STATE 8, the VALUE is register 10, PC stays.");
        for (int value : new int[] {0, 1, -1, MIN, MAX}) {
            StepMachine x = Load.machine(Load.nop(), Load.ecall());
            x.set(17, 10);
            x.set(10, value);
            x.step();
            s.due("END: step()", x.step(), 8);
            s.dueState("END", x, 8, 2, 2, 2);
            s.due("END: state(2)", x.state(2), value);
            s.due("END: get(10)", x.get(10), value);
        }
    }

    private void otherServices() {
        s.says("Terms", "Others: STATE 7, PC stays.");
        for (int service : new int[] {0, 4, 5, 9, 11, -1, -10, 257, 258, 266, 65537, MIN, MIN + 1, MAX}) {
            StepMachine x = Load.machine(Load.nop(), Load.ecall());
            x.set(17, service);
            x.set(10, 31);
            x.input(1, 0L);
            x.step();
            s.due("service " + service + ": step()", x.step(), 7);
            s.dueState("service " + service, x, 7, 2, 2, 2);
            s.due("service " + service + ": get(10)", x.get(10), 31);
            s.due("service " + service + ": state(2)", x.state(2), 0);
            s.due("service " + service + ": state(5)", x.state(5), 0);
            s.due("service " + service + ": state(6)", x.state(6), 1);
        }
    }

    private void ready() {
        s.says("Terms", "STATES: 0 READY.");
        StepMachine x = Load.machine(Load.nop());
        s.due("state(0)", x.state(0), 0);
        s.due("step()", x.step(), 0);
    }

    private void whatFailsIsNotDone() {
        s.says("Terms", "What FAILS is not done, PC stays, the CULPRIT is told:");
        int[][] rows = {{0x0000, 2, 2}, {Kinds.word("lw", 5, 6, 0, 2), 3, 514}, {Kinds.word("sh", 0, 6, 5, 1), 4, 513}};
        for (int[] row : rows) {
            StepMachine x = Load.machine(Load.nop(), row[0]);
            x.set(5, 77);
            x.set(6, 512);
            x.step();
            s.due("step()", x.step(), row[1]);
            s.dueState("what fails", x, row[1], row[2], 2, 1);
            s.due("get(5)", x.get(5), 77);
            s.due("peek(513)", x.peek(513), 0);
            s.due("state(4)", x.state(4), 1);
            s.due("state(7)", x.state(7), 1);
        }
        StepMachine x = new StepMachine();
        x.set(32, 100);
        s.due("FETCH: step()", x.step(), 1);
        s.dueState("FETCH", x, 1, 100, 100, 0);
    }

    private void fetchTellsTheFirst() {
        s.says("Terms", "1 FETCH: PC has a byte of the word without the right to execute (the first such address;");
        for (int without = 0; without < 4; without++) {
            StepMachine x = new StepMachine();
            x.segment(0, 100 + without, 1, 3);
            x.segment(1, 100, 4, 4);
            Load.words(x, 100, Load.li(5, 1));
            x.set(32, 100);
            s.due("byte " + without + ": step()", x.step(), 1);
            s.dueState("byte " + without, x, 1, 100 + without, 100, 0);
            s.due("get(5)", x.get(5), 0);
        }
        for (int size = 0; size < 3; size++) {
            StepMachine x = new StepMachine();
            x.segment(0, 0, size, 4);
            Load.words(x, 0, Load.nop());
            s.due("a short word with " + size + " bytes: step()", x.step(), size < 2 ? 1 : 0);
            s.due("its culprit", x.state(1), size < 2 ? size : 0);
        }
    }

    private void fetchOfALongWord() {
        s.says("Terms", "of a LONG word its upper two are asked when the lower ones are there).");
        StepMachine x = new StepMachine();
        x.segment(0, 2, 2, 4);
        Load.words(x, 0, Load.li(5, 1));
        s.due("the upper two alone: step()", x.step(), 1);
        s.due("state(1)", x.state(1), 0);
        x.segment(0, 0, 2, 4);
        x.set(33, 0);
        s.due("the lower two alone: step()", x.step(), 1);
        s.due("state(1)", x.state(1), 2);
        x.segment(0, 0, 3, 4);
        x.set(33, 0);
        s.due("three of them: step()", x.step(), 1);
        s.due("state(1)", x.state(1), 3);
        x.segment(0, 0, 4, 4);
        x.set(33, 0);
        s.due("all: step()", x.step(), 0);
        StepMachine y = new StepMachine();
        y.segment(0, 0, SIZE, 4);
        y.poke(SIZE - 2, 2, 0x9382L << 48);
        y.set(32, SIZE - 2);
        s.due("a long word across the end of memory: step()", y.step(), 1);
        s.dueState("across the end", y, 1, SIZE, SIZE - 2, 0);
    }

    private void illegal() {
        s.says("Terms", "2 ILLEGAL (the CULPRIT is PC).");
        for (int w : new int[] {0x0000, 0x8002, 0xffffffff, 0x0000007f}) {
            s.dueIllegal(w);
        }
        StepMachine x = new StepMachine();
        x.segment(0, SIZE - 4, 4, 4);
        x.poke(SIZE - 4, 4, -1L);
        x.set(32, SIZE - 4);
        s.due("at the end of memory: step()", x.step(), 2);
        s.dueState("at the end of memory", x, 2, SIZE - 4, SIZE - 4, 0);
        x.segment(0, SIZE - 4, 2, 4);
        x.set(33, 0);
        s.due("without the right to its upper half, FETCH: step()", x.step(), 1);
        s.dueState("its upper half", x, 1, SIZE - 2, SIZE - 4, 0);
    }

    private void loadIsNoMultiple() {
        s.says("Terms", "3 LOAD: the address is no multiple of how many bytes,");
        for (int off = 0; off < 4; off++) {
            dueAccess("lb", 512 + off, 0, 0);
            dueAccess("lbu", 512 + off, 0, 0);
            dueAccess("lh", 512 + off, 0, off % 2 == 0 ? 0 : 3);
            dueAccess("lhu", 512 + off, 0, off % 2 == 0 ? 0 : 3);
            dueAccess("lw", 512 + off, 0, off == 0 ? 0 : 3);
        }
        dueAccess("lw", -2, 0, 3);
        dueAccess("lhu", -1, 0, 3);
    }

    /** One access in a memory with all rights but that a segment of one byte hides some (none at 0). */
    private void dueAccess(String name, int at, int hidden, int state) {
        StepMachine x = new StepMachine();
        x.segment(0, hidden, hidden == 0 ? 0 : 1, name.charAt(0) == 'l' ? 6 : 5);
        x.segment(1, 0, SIZE, 7);
        Load.words(x, 0, Kinds.word(name, 5, 6, 7, -4));
        x.set(5, 55);
        x.set(6, at + 4);
        x.set(7, -1);
        String call = name + " at " + at + ", hidden " + hidden;
        s.due(call + ": step()", x.step(), state);
        s.dueState(call, x, state, state == 0 ? 0 : at, state == 0 ? 4 : 0, state == 0 ? 1 : 0);
        if (state != 0) {
            s.due(call + ": get(5)", x.get(5), 55);
            s.due(call + ": peek", x.peek(at) > 0, false);
        }
    }

    /** Each byte of an access hidden by itself, those beside it, and the ends of memory. */
    private void dueRights(String name, int bytes, int state) {
        for (int k = 0; k < bytes; k++) {
            dueAccess(name, 800, 800 + k, state);
        }
        dueAccess(name, 800, 799, 0);
        dueAccess(name, 800, 800 + bytes, 0);
        dueAccess(name, SIZE - bytes, 0, 0);
        dueAccess(name, SIZE, 0, state);
        dueAccess(name, -bytes, 0, state);
        dueAccess(name, MIN, 0, state);
        dueAccess(name, MAX - bytes + 1, 0, state);
    }

    private void loadWithoutTheRight() {
        s.says("Terms", "or one of these has not the right to read.");
        dueRights("lb", 1, 3);
        dueRights("lbu", 1, 3);
        dueRights("lh", 2, 3);
        dueRights("lhu", 2, 3);
        dueRights("lw", 4, 3);
    }

    private void storeLikewise() {
        s.says("Terms", "4 STORE: likewise, to write (the CULPRIT is the address, of 3 and 4).");
        for (int off = 0; off < 4; off++) {
            dueAccess("sb", 512 + off, 0, 0);
            dueAccess("sh", 512 + off, 0, off % 2 == 0 ? 0 : 4);
            dueAccess("sw", 512 + off, 0, off == 0 ? 0 : 4);
        }
        dueAccess("sw", -2, 0, 4);
        dueAccess("sh", -1, 0, 4);
        dueRights("sb", 1, 4);
        dueRights("sh", 2, 4);
        dueRights("sw", 4, 4);
    }

    private void wild() {
        s.says("Terms", "5 WILD (the CULPRIT is the target).");
        for (int i : new int[] {-1048576, -2, 0, 64, 1048574}) {
            StepMachine x = Load.machine(Load.nop(), Load.jal(1, i));
            x.marking(true);
            x.step();
            s.due("jal by " + i + ": step()", x.step(), 5);
            s.dueState("jal by " + i, x, 5, 2 + i, 2 + i, 2);
        }
    }

    private void breaksServicesAndEnds() {
        s.says("Terms", "6 BREAK, 7 no such SERVICE, 8 ENDED (the CULPRIT is PC).");
        int[][] rows = {{Load.ebreak(), 0, 6}, {0x9002, 0, 6}, {Load.ecall(), 0, 7}, {Load.ecall(), 10, 8}};
        for (int[] row : rows) {
            StepMachine x = new StepMachine();
            x.segment(0, SIZE - 4, 4, 4);
            Load.words(x, SIZE - 4, row[0]);
            x.set(17, row[1]);
            x.set(32, SIZE - 4);
            s.due("STATE " + row[2] + ": step()", x.step(), row[2]);
            s.dueState("STATE " + row[2], x, row[2], SIZE - 4, SIZE - 4, 1);
        }
    }

    private void halted() {
        s.says("Terms", "9 HALTED (see run(); the CULPRIT is PC).");
        for (int at : new int[] {0, 64, SIZE - 2, SIZE, MAX - 1}) {
            StepMachine x = Load.machine(Load.nop(), Kinds.word("jalr", 0, 5, 0, 0));
            x.set(5, at);
            x.halt(at, true);
            s.due("run(9)", x.run(9), 2);
            s.dueState("a HALT at " + at, x, 9, at, at, 2);
        }
    }

    private void whatCounts() {
        s.says("Terms", "What comes to 5, 6, 7 or 8 counts as a step; what FAILS doesn't.");
        int[][] rows = {{0x0000, 2, 0}, {Kinds.word("lw", 0, 0, 0, 2), 3, 0}, {Kinds.word("sw", 0, 0, 0, 2), 4, 0},
            {Load.jal(0, 8), 5, 1}, {Load.ebreak(), 6, 1}, {Load.ecall(), 7, 1}};
        for (int[] row : rows) {
            StepMachine x = Load.machine(row[0]);
            x.marking(true);
            x.mark(0, true);
            dueCount(x, row[1], row[2]);
        }
        StepMachine x = Load.machine(Load.ecall());
        x.set(17, 10);
        dueCount(x, 8, 1);
        dueCount(new StepMachine(), 1, 0);
    }

    private void dueCount(StepMachine x, int state, int count) {
        s.due("step()", x.step(), state);
        s.due("STATE " + state + ": state(3)", x.state(3), count);
        s.due("STATE " + state + ": state(4)", x.state(4), count);
        s.due("STATE " + state + ": state(7)", x.state(7), count);
    }

    private void endsDoNothingMore() {
        s.says("Terms", "STATES but 0 and 9 are ENDS: nothing more is done until the state is set.");
        int[][] rows = {{0x0000, 0, 2}, {Kinds.word("lw", 0, 0, 0, 2), 0, 3}, {Kinds.word("sw", 0, 0, 0, 2), 0, 4},
            {Load.jal(0, 2), 0, 5}, {Load.ebreak(), 0, 6}, {Load.ecall(), 0, 7}, {Load.ecall(), 10, 8}};
        for (int[] row : rows) {
            StepMachine x = Load.machine(row[0]);
            x.marking(true);
            x.set(17, row[1]);
            x.step();
            dueEnd(x, row[2]);
        }
        StepMachine x = new StepMachine();
        x.step();
        dueEnd(x, 1);
        StepMachine y = Load.machine(Load.nop(), Load.nop());
        y.halt(2, true);
        y.run(2);
        s.due("STATE 9 is no END: step()", y.step(), 0);
        s.due("state(3)", y.state(3), 2);
    }

    /** Neither a new word at PC nor rights end an END. */
    private void dueEnd(StepMachine x, int state) {
        int steps = x.state(3);
        x.segment(0, 0, 4096, 7);
        x.poke(0, 8, 0x0100010001000100L);
        x.set(32, 0);
        x.set(17, 3);
        s.due("STATE " + state + ": step()", x.step(), state);
        s.due("STATE " + state + ": run(5)", x.run(5), 0);
        s.due("STATE " + state + ": state(0)", x.state(0), state);
        s.due("STATE " + state + ": state(3)", x.state(3), steps);
        s.due("STATE " + state + ": get(32)", x.get(32), 0);
        x.set(33, 0);
        s.due("the state is set: step()", x.step(), 0);
        s.due("the state is set: state(3)", x.state(3), steps + 1);
    }

    private static StepMachine counting() {
        return Load.machine(Load.addi(5, 5, 1), Load.jal(0, -4));
    }

    private void lastHundredAreKept() {
        s.says("Terms", "The last 100 steps");
        for (int steps : new int[] {0, 1, 99, 100, 101, 102, 250, 2000}) {
            StepMachine x = counting();
            s.due("run(" + steps + ")", x.run(steps), steps);
            int kept = Math.min(steps, 100);
            s.due("state(7)", x.state(7), kept);
            s.due("back(101)", x.back(101), kept);
            s.due("get(5)", x.get(5), (steps - kept + 1) / 2);
            s.due("state(3)", x.state(3), steps - kept);
            s.due("state(7)", x.state(7), 0);
            s.due("back(1)", x.back(1), 0);
        }
        StepMachine x = counting();
        x.run(150);
        s.due("back(30)", x.back(30), 30);
        s.due("state(7)", x.state(7), 70);
        x.run(31);
        s.due("31 steps more: state(7)", x.state(7), 100);
        s.due("back(200)", x.back(200), 100);
        s.due("state(3)", x.state(3), 51);
        s.due("get(5)", x.get(5), 26);
    }

    private void keptAreThoseThatCount() {
        s.says("Terms", "(those that count) are KEPT,");
        StepMachine x = Load.machine(Load.li(5, 9), 0x0000);
        s.due("run(5)", x.run(5), 1);
        s.due("state(0)", x.state(0), 2);
        s.due("state(7)", x.state(7), 1);
        s.due("back(2)", x.back(2), 1);
        s.due("get(5)", x.get(5), 0);
        StepMachine y = Load.machine(Load.ebreak());
        y.step();
        y.step();
        y.run(3);
        s.due("a BREAK, and nothing behind it: state(7)", y.state(7), 1);
        StepMachine z = Load.machine(0x0000);
        z.step();
        s.due("what FAILS: back(1)", z.back(1), 0);
        s.dueState("what FAILS", z, 2, 0, 0, 0);
    }

    private void keptRegistersAndMemory() {
        s.says("Terms", "with all that each changed: a register, memory,");
        for (Kinds.Kind kind : Kinds.ALL) {
            StepMachine x = Load.machine(Kinds.word(kind.name, 9, 10, 11, kind.name.equals("c.addi16sp") ? 16 : 4));
            for (int r = 1; r < 32; r++) {
                x.set(r, r == 17 ? 3 : 1024 + 4 * r);
            }
            x.poke(1024, 8, 0x1122334455667788L);
            int ends = x.step();
            s.due(kind.name + ": a step that counts", ends == 0 || ends == 6, true);
            s.due(kind.name + ": back(1)", x.back(1), 1);
            for (int r = 1; r < 32; r++) {
                s.due(kind.name + ", taken back: get(" + r + ")", x.get(r), r == 17 ? 3 : 1024 + 4 * r);
            }
            s.dueState(kind.name + ", taken back", x, 0, 0, 0, 0);
        }
        for (String store : new String[] {"sb", "sh", "sw"}) {
            for (int at = 512; at < 520; at += 4) {
                StepMachine x = Load.machine(Kinds.word(store, 0, 0, 5, at));
                x.poke(512, 8, 0x1122334455667788L);
                x.set(5, -1);
                x.step();
                s.due(store + ": peek(" + at + ")", x.peek(at), 255);
                s.due(store + ": back(1)", x.back(1), 1);
                for (int k = 0; k < 8; k++) {
                    s.due(store + ", taken back: peek(" + (512 + k) + ")", x.peek(512 + k), 0x11 * (k + 1));
                }
            }
        }
    }

    private void keptOutputAndInput() {
        s.says("Terms", "OUTPUT, what of INPUT was taken,");
        StepMachine x = serving(1, 200, 2);
        x.step();
        x.set(17, 1);
        x.step();
        s.due("back(1)", x.back(1), 1);
        s.due("state(5)", x.state(5), 1);
        s.due("output(0)", x.output(0), 200);
        s.due("output(1)", x.output(1), -1);
        s.due("get(10)", x.get(10), 1);
        StepMachine y = serving(2, 7, 3);
        y.input(2, 0x1112L << 48);
        y.run(3);
        int[] left = {0, 1, 2};
        int[] numbers = {0x12, 0x11, 7};
        for (int k = 0; k < 3; k++) {
            s.due("back(1)", y.back(1), 1);
            s.due("state(6)", y.state(6), left[k]);
            s.due("get(10)", y.get(10), numbers[k]);
        }
        y.step();
        s.due("the same byte again", y.get(10), 0x11);
        StepMachine z = withOutput(2000);
        z.run(2);
        s.due("PUT without room: get(10)", z.get(10), -1);
        z.back(1);
        s.due("taken back: state(5)", z.state(5), 2000);
        s.due("taken back: get(10)", z.get(10), 2000);
        z.back(2);
        s.due("the last that had room, taken back: state(5)", z.state(5), 1999);
        s.due("output(1999)", z.output(1999), -1);
    }

    private void keptStates() {
        s.says("Terms", "PC, STATE, CULPRIT, VALUE,");
        int[][] rows = {{Load.jal(0, 64), 0, 5}, {Load.ebreak(), 0, 6}, {0x9002, 0, 6}, {Load.ecall(), 77, 7}, {Load.ecall(), 10, 8}};
        for (int[] row : rows) {
            StepMachine x = Load.machine(Load.nop(), row[0]);
            x.marking(true);
            x.set(17, row[1]);
            x.set(10, 31);
            x.run(5);
            s.due("state(0)", x.state(0), row[2]);
            s.due("back(1)", x.back(1), 1);
            s.dueState("STATE " + row[2] + ", taken back", x, 0, 0, 2, 1);
            s.due("state(2)", x.state(2), 0);
            s.due("step()", x.step(), row[2]);
        }
        keptFromHalted();
        keptValues();
    }

    private void keptFromHalted() {
        StepMachine x = Load.machine(Load.nop(), Load.nop(), 0x0000);
        x.halt(2, true);
        x.run(9);
        x.step();
        s.due("a step from STATE 9: state(0)", x.state(0), 0);
        s.due("back(1)", x.back(1), 1);
        s.dueState("taken back", x, 9, 2, 2, 1);
        s.due("back(1)", x.back(1), 1);
        s.dueState("the step ahead of the HALT, taken back", x, 0, 0, 0, 0);
        x.run(9);
        s.due("run(9) from the HALT, to what FAILS", x.run(9), 1);
        s.dueState("what FAILS", x, 2, 4, 4, 2);
        s.due("back(1)", x.back(1), 1);
        s.dueState("taken back", x, 9, 2, 2, 1);
    }

    private void keptValues() {
        StepMachine x = Load.machine(Load.ecall());
        x.set(17, 10);
        x.set(10, -5);
        x.step();
        x.set(33, 0);
        x.set(10, 6);
        x.step();
        s.due("the second VALUE", x.state(2), 6);
        s.due("back(1)", x.back(1), 1);
        s.due("the first VALUE", x.state(2), -5);
    }

    private void keptCounts() {
        s.says("Terms", "STEPS and UNITS.");
        StepMachine x = Load.machine(Load.nop(), Load.nop(), Kinds.word("c.j", 0, 0, 0, -4));
        x.mark(0, true);
        x.marking(true);
        s.due("run(5)", x.run(5), 5);
        int[] units = {5, 5, 5, 4, 4, 4, 3, 3, 3, 2, 2, 2, 1, 1, 1, 0};
        for (int k = 0; k < 16; k++) {
            s.due("state(3), " + k + " undone", x.state(3), 15 - k);
            s.due("state(4), " + k + " undone", x.state(4), units[k]);
            s.due("back(1)", x.back(1), k < 15 ? 1 : 0);
        }
        s.due("run(2) again", x.run(2), 2);
        s.due("state(4)", x.state(4), 2);
    }

    private StepMachine stepped() {
        StepMachine x = Load.machine(Load.li(5, 1), Load.li(6, 1), Load.li(7, 1));
        x.halt(64, true);
        x.run(3);
        s.due("three steps: state(7)", x.state(7), 3);
        return x;
    }

    private void otherCallsForget() {
        s.says("Terms", "Each other call that is not refused,");
        for (int call = 0; call < 13; call++) {
            StepMachine x = stepped();
            s.due("call " + call + " is not refused", call(x, call), true);
            s.due("call " + call + ": state(7)", x.state(7), 0);
            s.due("call " + call + ": back(3)", x.back(3), 0);
            s.due("call " + call + ": state(3)", x.state(3), 3);
        }
    }

    /** Calls that change nothing are among them: they are not refused. */
    private static boolean call(StepMachine x, int call) {
        switch (call) {
            case 0: return x.segment(7, 0, 0, 0);
            case 1: return x.mark(0, true);
            case 2: return x.mark(0, false);
            case 3: x.marking(false); return true;
            case 4: x.marking(true); return true;
            case 5: return x.poke(2000, 1, 0L);
            case 6: return x.set(5, 1);
            case 7: return x.set(31, 0);
            case 8: return x.set(32, 12);
            case 9: return x.set(33, 0);
            case 10: return x.input(1, 0L);
            case 11: return x.halt(66, true);
            default: return x.halt(64, false);
        }
    }

    private void refusedCallsForgetNone() {
        s.says("Terms", "that is not refused, but");
        StepMachine x = stepped();
        for (int k = 0; k < 18; k++) {
            s.due("refused call " + k, isRefused(x, k), true);
            s.due("refused call " + k + ": state(7)", x.state(7), 3);
        }
        s.due("back(3)", x.back(3), 3);
        s.due("get(5)", x.get(5), 0);
    }

    private static boolean isRefused(StepMachine x, int k) {
        switch (k) {
            case 0: return !x.segment(8, 0, 0, 0);
            case 1: return !x.segment(0, 1, SIZE, 0);
            case 2: return !x.segment(0, 0, 0, 8);
            case 3: return !x.mark(1, true);
            case 4: return !x.mark(SIZE, false);
            case 5: return !x.poke(0, 9, 0L);
            case 6: return !x.poke(0, 0, 0L);
            case 7: return !x.poke(SIZE, 1, 0L);
            case 8: return !x.set(0, 0);
            case 9: return !x.set(32, 1);
            case 10: return !x.set(34, 0);
            case 11: return !x.input(0, 0L);
            case 12: return !x.input(9, 0L);
            case 13: return !x.halt(64, true);
            case 14: return !x.halt(66, false);
            case 15: return !x.halt(1, true);
            case 16: return x.run(-1) == -1;
            default: return x.run(2001) == -1;
        }
    }

    private void callsThatAskForgetNone() {
        s.says("Terms", "but those that only ask, forgets them all.");
        StepMachine x = stepped();
        for (int k = -1; k < 34; k++) {
            x.peek(k);
            x.get(k);
            x.state(k);
            x.output(k);
            x.rights(k);
        }
        s.due("peek, get, state, output, rights: state(7)", x.state(7), 3);
        s.due("run(0)", x.run(0), 0);
        s.due("back(0)", x.back(0), 0);
        s.due("state(7)", x.state(7), 3);
        s.due("back(3)", x.back(3), 3);
        s.due("get(5)", x.get(5), 0);
    }

    private void none() {
        s.says("Terms", "The constants: `NONE = -1`: None.");
        s.due("NONE", StepMachine.NONE, -1);
        StepMachine x = new StepMachine();
        s.due("peek(-1)", x.peek(-1), StepMachine.NONE);
        s.due("run(-1)", x.run(-1), StepMachine.NONE);
        s.due("state(-1)", x.state(-1), StepMachine.NONE);
        s.due("output(-1)", x.output(-1), StepMachine.NONE);
    }
}
