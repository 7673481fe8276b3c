/** Promises 1 to 10: what the calls that set the machine up take, answer and refuse. */
final class CallSentences {

    private static final int MIN = Integer.MIN_VALUE;
    private static final int MAX = Integer.MAX_VALUE;
    private static final int SIZE = 131072;
    private static final long EIGHT = 0x81828384f5f6f7f8L;

    private final Sentences s;

    CallSentences(Sentences s) {
        this.s = s;
    }

    void all() {
        newObject();
        segmentBecomesThis();
        segmentWithWrongNumber();
        segmentBelowZero();
        segmentBeyondMemory();
        segmentWithWrongRights();
        addressIsMarkedOrNot();
        markRefused();
        marking();
        pokeHighestFirst();
        pokeWithoutRegardToRights();
        pokeOfWrongLength();
        pokeBeyondMemory();
        peekTellsAByte();
        peekBeyondMemory();
        setRegister();
        setPc();
        setState();
        setRefused();
        getTells();
        inputHighestFirst();
        inputTakenCounts();
        inputOfWrongLength();
        inputOfTooMany();
        haltOrNone();
        haltOddOrBelowZero();
        haltThatIsSoAlready();
        haltsAreEight();
    }

    private void newObject() {
        s.says("Promise 1", "All is as said; STATE 0.");
        StepMachine x = new StepMachine();
        for (int what = 0; what <= 8; what++) {
            s.due("state(" + what + ")", x.state(what), 0);
        }
        for (int r = 0; r <= 33; r++) {
            s.due("get(" + r + ")", x.get(r), 0);
        }
        s.due("output(0)", x.output(0), -1);
        s.due("back(1)", x.back(1), 0);
        s.due("halt(0, false)", x.halt(0, false), false);
        s.due("step()", x.step(), 1);
        s.dueState("without a segment", x, 1, 0, 0, 0);
        StepMachine y = Load.machine(Load.nop());
        y.step();
        s.due("another object, get(32)", new StepMachine().get(32), 0);
        s.due("another object, peek(0)", new StepMachine().peek(0), 0);
    }

    private void dueSegment(StepMachine x, int k, int from, int size, int rights, boolean want) {
        String call = "segment(" + k + ", " + from + ", " + size + ", " + rights + ")";
        s.due(call, x.segment(k, from, size, rights), want);
    }

    private void segmentBecomesThis() {
        s.says("Promise 2", "A SEGMENT becomes this.");
        StepMachine x = new StepMachine();
        dueSegment(x, 3, 100, 10, 7, true);
        s.due("rights(99)", x.rights(99), 0);
        s.due("rights(100)", x.rights(100), 7);
        s.due("rights(109)", x.rights(109), 7);
        s.due("rights(110)", x.rights(110), 0);
        dueSegment(x, 3, 104, 1, 2, true);
        s.due("rights(103), as it was before", x.rights(103), 0);
        s.due("rights(104)", x.rights(104), 2);
        s.due("rights(105), as it was before", x.rights(105), 0);
        dueSegment(x, 3, 104, 0, 7, true);
        s.due("rights(104), of size 0", x.rights(104), 0);
    }

    /** Refused, a segment stays as it was: all rights to 0 .. 3. */
    private void dueRefusedSegment(int k, int from, int size, int rights) {
        StepMachine x = new StepMachine();
        x.segment(0, 0, 4, 7);
        x.segment(7, 8, 4, 6);
        dueSegment(x, k, from, size, rights, false);
        s.due("rights(3)", x.rights(3), 7);
        s.due("rights(4)", x.rights(4), 0);
        s.due("rights(8)", x.rights(8), 6);
        s.due("rights(12)", x.rights(12), 0);
        s.due("rights(131071)", x.rights(SIZE - 1), 0);
    }

    private void segmentWithWrongNumber() {
        s.says("Promise 2", "False, refused, when k isn't 0 .. 7,");
        for (int k : new int[] {-1, 8, 9, MIN, MAX}) {
            dueRefusedSegment(k, 0, 16, 5);
        }
        dueSegment(new StepMachine(), 0, 0, 16, 5, true);
        dueSegment(new StepMachine(), 7, 0, 16, 5, true);
    }

    private void segmentBelowZero() {
        s.says("Promise 2", "from or size is below 0,");
        for (int wrong : new int[] {-1, -16, MIN}) {
            dueRefusedSegment(0, wrong, 16, 5);
            dueRefusedSegment(0, 16, wrong, 5);
            dueRefusedSegment(0, wrong, wrong, 5);
        }
        dueSegment(new StepMachine(), 0, 0, 0, 5, true);
    }

    private void segmentBeyondMemory() {
        s.says("Promise 2", "or both together are above 131,072,");
        int[][] refused = {{1, SIZE}, {SIZE, 1}, {SIZE - 1, 2}, {0, SIZE + 1}, {SIZE + 1, 0}, {65536, 65537},
            {MAX, MAX}, {MAX, 1}, {1, MAX}, {MAX, 0}, {0, MAX}};
        for (int[] row : refused) {
            dueRefusedSegment(0, row[0], row[1], 5);
        }
        int[][] taken = {{0, SIZE}, {SIZE, 0}, {SIZE - 1, 1}, {1, SIZE - 1}, {65536, 65536}};
        for (int[] row : taken) {
            StepMachine x = new StepMachine();
            dueSegment(x, 0, row[0], row[1], 5, true);
            s.due("rights(131071)", x.rights(SIZE - 1), row[1] == 0 ? 0 : 5);
            s.due("rights(131072)", x.rights(SIZE), 0);
        }
    }

    private void segmentWithWrongRights() {
        s.says("Promise 2", "or rights isn't 0 .. 7.");
        for (int rights : new int[] {-1, 8, 15, MIN, MAX}) {
            dueRefusedSegment(0, 0, 16, rights);
        }
        for (int rights : new int[] {0, 7}) {
            StepMachine x = new StepMachine();
            dueSegment(x, 0, 0, 16, rights, true);
            s.due("rights(0)", x.rights(0), rights);
        }
    }

    private void addressIsMarkedOrNot() {
        s.says("Promise 3", "An address is marked, or not.");
        StepMachine x = new StepMachine();
        x.segment(0, 0, 64, 5);
        for (int at : new int[] {0, 2, 62, 64, 66, SIZE - 2}) {
            int plain = at < 64 ? 5 : 0;
            s.due("mark(" + at + ", false), not marked", x.mark(at, false), true);
            s.due("rights(" + at + ")", x.rights(at), plain);
            s.due("mark(" + at + ", true)", x.mark(at, true), true);
            s.due("mark(" + at + ", true) again", x.mark(at, true), true);
            s.due("rights(" + at + ")", x.rights(at), plain + 8);
        }
        s.due("mark(2, false)", x.mark(2, false), true);
        s.due("rights(2)", x.rights(2), 5);
        s.due("rights(0)", x.rights(0), 13);
        s.due("rights(4)", x.rights(4), 5);
        s.due("rights(64)", x.rights(64), 8);
    }

    private void markRefused() {
        s.says("Promise 3", "False, refused, when it isn't even or beyond memory.");
        StepMachine x = new StepMachine();
        x.mark(64, true);
        for (int at : new int[] {1, 63, 65, SIZE - 1, SIZE, SIZE + 2, SIZE + 64, -1, -2, MIN, MIN + 1, MAX, MAX - 1}) {
            s.due("mark(" + at + ", true)", x.mark(at, true), false);
            s.due("mark(" + at + ", false)", x.mark(at, false), false);
            s.due("rights(" + at + ")", x.rights(at), 0);
        }
        s.due("rights(64)", x.rights(64), 8);
        s.due("rights(62)", x.rights(62), 0);
        s.due("rights(0)", x.rights(0), 0);
        s.due("mark(0, true)", x.mark(0, true), true);
        s.due("mark(131070, true)", x.mark(SIZE - 2, true), true);
    }

    private void marking() {
        s.says("Promise 4", "MARKING is on, or off.");
        StepMachine x = Load.machine(Load.jal(0, 0));
        x.marking(true);
        x.marking(true);
        s.due("on: step()", x.step(), 5);
        s.due("on: state(4)", x.state(4), 0);
        x.marking(false);
        s.due("it sets no state", x.state(0), 5);
        x.set(33, 0);
        x.marking(false);
        s.due("off: step()", x.step(), 0);
        s.due("off: state(4)", x.state(4), 1);
        x.marking(true);
        x.mark(0, true);
        s.due("on, marked: step()", x.step(), 0);
        s.due("on, marked: state(4)", x.state(4), 2);
    }

    private void pokeHighestFirst() {
        s.says("Promise 5", "The n highest bytes of eight, the highest first, come to memory from an address on");
        for (int n = 1; n <= 8; n++) {
            for (int at : new int[] {0, 1, 2, 3, 777, SIZE - n}) {
                StepMachine x = new StepMachine();
                s.due("poke(" + at + ", " + n + ")", x.poke(at, n, EIGHT), true);
                for (int k = -1; k < 9; k++) {
                    long due = k >= 0 && k < n ? EIGHT >>> 56 - 8 * k & 255 : 0;
                    long want = at + k < 0 || at + k >= SIZE ? -1 : due;
                    s.due("peek(" + (at + k) + ")", x.peek(at + k), want);
                }
            }
        }
        pokeLeavesTheOthers();
    }

    private void pokeLeavesTheOthers() {
        for (int at = 8; at < 12; at++) {
            for (int n = 1; n <= 8; n++) {
                StepMachine x = new StepMachine();
                for (int k = 0; k < 24; k += 8) {
                    x.poke(k, 8, -1L);
                }
                x.poke(at, n, 0x0102030405060708L);
                for (int k = 0; k < 24; k++) {
                    int want = k >= at && k < at + n ? k - at + 1 : 255;
                    s.due("peek(" + k + ") behind poke(" + at + ", " + n + ")", x.peek(k), want);
                }
            }
        }
    }

    private void pokeWithoutRegardToRights() {
        s.says("Promise 5", "(without regard to rights).");
        for (int rights = 0; rights < 8; rights++) {
            StepMachine x = new StepMachine();
            x.segment(0, 0, 8, rights);
            s.due("poke(4, 8), half of it in the segment", x.poke(4, 8, EIGHT), true);
            s.due("peek(4)", x.peek(4), 0x81);
            s.due("peek(11)", x.peek(11), 0xf8);
        }
    }

    private void pokeOfWrongLength() {
        s.says("Promise 5", "False, refused, when n isn't 1 .. 8,");
        StepMachine x = new StepMachine();
        for (int n : new int[] {0, 9, -1, -8, 16, MIN, MAX}) {
            s.due("poke(8, " + n + ")", x.poke(8, n, -1L), false);
        }
        for (int at = 0; at < 32; at++) {
            s.due("peek(" + at + ")", x.peek(at), 0);
        }
        s.due("poke(8, 1)", x.poke(8, 1, -1L), true);
        s.due("poke(8, 8)", x.poke(8, 8, -1L), true);
    }

    private void pokeBeyondMemory() {
        s.says("Promise 5", "or one is beyond memory.");
        StepMachine x = new StepMachine();
        int[][] refused = {{-1, 1}, {-1, 8}, {-8, 8}, {SIZE, 1}, {SIZE - 1, 2}, {SIZE - 7, 8}, {MIN, 1}, {MIN, 8}, {MAX, 1},
            {MAX, 8}, {MAX - 7, 8}};
        for (int[] row : refused) {
            s.due("poke(" + row[0] + ", " + row[1] + ")", x.poke(row[0], row[1], -1L), false);
        }
        for (int k = 0; k < 8; k++) {
            s.due("peek(" + k + ")", x.peek(k), 0);
            s.due("peek(" + (SIZE - 1 - k) + ")", x.peek(SIZE - 1 - k), 0);
        }
        for (int n = 1; n <= 8; n++) {
            s.due("poke(" + (SIZE - n) + ", " + n + ")", x.poke(SIZE - n, n, -1L), true);
            s.due("poke(" + (SIZE - n + 1) + ", " + n + ")", x.poke(SIZE - n + 1, n, -1L), false);
        }
    }

    private void peekTellsAByte() {
        s.says("Promise 6", "The byte at an address, 0 .. 255;");
        StepMachine x = new StepMachine();
        for (int at : new int[] {0, 1, 2, 3, SIZE - 1}) {
            for (long v : new long[] {0, 1, 127, 128, 255}) {
                x.poke(at, 1, v << 56);
                s.due("peek(" + at + ")", x.peek(at), v);
            }
        }
    }

    private void peekBeyondMemory() {
        s.says("Promise 6", "NONE beyond memory.");
        StepMachine x = new StepMachine();
        x.segment(0, 0, SIZE, 7);
        x.poke(SIZE - 8, 8, -1L);
        for (int at : new int[] {-1, -2, SIZE, SIZE + 1, MIN, MAX}) {
            s.due("peek(" + at + ")", x.peek(at), -1);
        }
        s.due("peek(0)", x.peek(0), 0);
        s.due("peek(131071)", x.peek(SIZE - 1), 255);
    }

    private void setRegister() {
        s.says("Promise 7", "Register r (1 .. 31) becomes v;");
        StepMachine x = new StepMachine();
        for (int r = 1; r < 32; r++) {
            s.due("set(" + r + ")", x.set(r, 1001 * r - 7), true);
        }
        for (int r = 1; r < 32; r++) {
            s.due("get(" + r + ")", x.get(r), 1001 * r - 7);
        }
        s.due("get(32)", x.get(32), 0);
    }

    private void setPc() {
        s.says("Promise 7", "for r 32 PC, which must be even,");
        StepMachine x = new StepMachine();
        for (int pc : new int[] {0, 2, SIZE - 2, SIZE, MAX - 1, MIN, -2}) {
            s.due("set(32, " + pc + ")", x.set(32, pc), true);
            s.due("get(32)", x.get(32), pc);
            s.due("set(32, " + (pc + 1) + ")", x.set(32, pc + 1), false);
            s.due("get(32)", x.get(32), pc);
        }
        pcAloneIsSet();
    }

    /** For r 32 the document names PC alone: neither the STATE nor the CULPRIT becomes another. */
    private void pcAloneIsSet() {
        int[][] rows = {{Load.nop(), 0, 0, 0}, {-1, 0, 1, 4}, {0x0000, 0, 2, 4}, {Kinds.word("lw", 0, 0, 0, 6), 0, 3, 6},
            {Kinds.word("sw", 0, 0, 0, 6), 0, 4, 6}, {Load.jal(0, 2), 0, 5, 6}, {Load.ebreak(), 0, 6, 4},
            {Load.ecall(), 0, 7, 4}, {Load.ecall(), 10, 8, 4}, {Load.nop(), 0, 9, 6}};
        for (int[] row : rows) {
            StepMachine x = Load.machine(Load.nop(), Load.nop(), row[0], Load.nop());
            x.segment(0, 0, row[2] == 1 ? 4 : 4096, 7);
            x.set(17, row[1]);
            x.marking(row[2] == 5);
            x.halt(6, row[2] == 9);
            x.set(32, 4);
            x.run(1);
            int steps = x.state(3);
            for (int pc : new int[] {64, SIZE, -2}) {
                s.due("set(32, " + pc + ") in STATE " + row[2], x.set(32, pc), true);
                s.dueState("set(32, " + pc + ")", x, row[2], row[3], pc, steps);
                s.due("set(32, 1) in STATE " + row[2], x.set(32, 1), false);
                s.dueState("set(32, 1)", x, row[2], row[3], pc, steps);
            }
        }
    }

    private void setState() {
        s.says("Promise 7", "and for r 33 the STATE becomes 0 (v is not looked at).");
        for (int v : new int[] {0, 1, 5, 9, -1, MIN, MAX}) {
            StepMachine x = new StepMachine();
            s.due("step()", x.step(), 1);
            s.due("set(33, " + v + ")", x.set(33, v), true);
            s.dueState("set(33, " + v + ")", x, 0, 0, 0, 0);
            s.due("set(33, " + v + ") in STATE 0", x.set(33, v), true);
            s.due("state(0)", x.state(0), 0);
            s.due("get(33)", x.get(33), 0);
        }
        StepMachine x = Load.machine(Load.nop(), Load.nop());
        x.halt(2, true);
        x.run(5);
        s.due("set(33, 9) in STATE 9", x.set(33, 9), true);
        s.dueState("set(33, 9) in STATE 9", x, 0, 0, 2, 1);
    }

    private void setRefused() {
        s.says("Promise 7", "False, refused, for another r, or an odd PC.");
        StepMachine x = new StepMachine();
        for (int r : new int[] {0, -1, 34, 64, MIN, MAX}) {
            s.due("set(" + r + ", 2)", x.set(r, 2), false);
        }
        for (int pc : new int[] {1, -1, SIZE - 1, SIZE + 1, MAX, MIN + 1}) {
            s.due("set(32, " + pc + ")", x.set(32, pc), false);
        }
        for (int r = 0; r <= 32; r++) {
            s.due("get(" + r + ")", x.get(r), 0);
        }
        s.due("set(1, 1)", x.set(1, 1), true);
        s.due("set(31, 1)", x.set(31, 1), true);
    }

    private void getTells() {
        s.says("Promise 8", "Register r, for r 32 PC; 0 for others.");
        StepMachine x = new StepMachine();
        for (int r = 1; r < 32; r++) {
            x.set(r, -r);
        }
        x.set(32, 64);
        for (int r = 0; r < 32; r++) {
            s.due("get(" + r + ")", x.get(r), -r);
        }
        s.due("get(32)", x.get(32), 64);
        x.set(32, SIZE);
        s.due("step()", x.step(), 1);
        for (int r : new int[] {-1, -32, 33, 34, 63, 64, MIN, MAX}) {
            s.due("get(" + r + ")", x.get(r), 0);
        }
    }

    /** Takes n bytes of INPUT, each by two steps, and tells whether they are these. */
    private void dueTaken(StepMachine x, int n, long eight) {
        for (int k = 0; k < n; k++) {
            x.run(2);
            s.due("byte " + k + " of INPUT", x.get(10), eight >>> 56 - 8 * k & 255);
        }
    }

    private static StepMachine taking() {
        StepMachine x = Load.machine(Load.nop(), Load.ecall(), Load.jal(0, -4));
        x.set(17, 2);
        x.step();
        x.set(32, 6);
        return x;
    }

    private void inputHighestFirst() {
        s.says("Promise 9", "The n highest bytes of eight, the highest first, come behind INPUT");
        for (int n = 1; n <= 8; n++) {
            StepMachine x = taking();
            s.due("input(" + n + ")", x.input(n, EIGHT), true);
            s.due("state(6)", x.state(6), n);
            s.due("input(8) behind it", x.input(8, 0x0102030405060708L), true);
            s.due("state(6)", x.state(6), n + 8);
            dueTaken(x, n, EIGHT);
            dueTaken(x, 8, 0x0102030405060708L);
            s.due("state(6)", x.state(6), 0);
        }
    }

    private void inputTakenCounts() {
        s.says("Promise 9", "(that which was taken counts, too).");
        StepMachine x = taking();
        for (int k = 0; k < 124; k++) {
            x.input(8, EIGHT);
        }
        s.due("run(1984), all are taken", x.run(1984), 1984);
        s.due("state(6)", x.state(6), 0);
        s.due("input(8)", x.input(8, EIGHT), true);
        s.due("input(1)", x.input(1, EIGHT), false);
        x.run(16);
        s.due("state(6)", x.state(6), 0);
        s.due("input(1), all are taken", x.input(1, EIGHT), false);
        s.due("back(1)", x.back(1), 1);
        s.due("input(1), one is taken back", x.input(1, EIGHT), false);
    }

    private void inputOfWrongLength() {
        s.says("Promise 9", "False, refused, when n isn't 1 .. 8,");
        StepMachine x = new StepMachine();
        for (int n : new int[] {0, 9, -1, -8, 16, MIN, MAX}) {
            s.due("input(" + n + ")", x.input(n, -1L), false);
            s.due("state(6)", x.state(6), 0);
        }
        s.due("input(1)", x.input(1, -1L), true);
        s.due("input(8)", x.input(8, -1L), true);
        s.due("state(6)", x.state(6), 9);
    }

    private void inputOfTooMany() {
        s.says("Promise 9", "or it would have more than 1000.");
        for (int room = 0; room < 8; room++) {
            StepMachine x = new StepMachine();
            for (int k = 0; k < 124; k++) {
                x.input(8, 0L);
            }
            s.due("input(" + (8 - room) + ")", x.input(8 - room, 0L), true);
            s.due("state(6)", x.state(6), 1000 - room);
            s.due("input(" + (room + 1) + "), 1001 bytes", x.input(room + 1, 0L), false);
            s.due("input(8), above 1000 bytes", x.input(8, 0L), false);
            s.due("state(6), none has come", x.state(6), 1000 - room);
            if (room > 0) {
                s.due("input(" + room + "), 1000 bytes", x.input(room, 0L), true);
            }
            s.due("state(6)", x.state(6), 1000);
        }
    }

    private void haltOrNone() {
        s.says("Promise 10", "An address becomes a HALT, or none any more.");
        StepMachine x = Load.machine(Load.nop(), Load.nop(), Load.nop(), Load.ebreak());
        s.due("halt(4, true)", x.halt(4, true), true);
        s.due("state(8)", x.state(8), 1);
        s.due("run(9)", x.run(9), 2);
        s.due("state(0)", x.state(0), 9);
        s.due("halt(4, false)", x.halt(4, false), true);
        s.due("state(8)", x.state(8), 0);
        x.set(32, 0);
        s.due("run(9)", x.run(9), 4);
        s.due("state(0)", x.state(0), 6);
        for (int at : new int[] {0, SIZE - 2, SIZE, MAX - 1}) {
            s.due("halt(" + at + ", true)", x.halt(at, true), true);
            s.due("halt(" + at + ", false)", x.halt(at, false), true);
        }
    }

    private void haltOddOrBelowZero() {
        s.says("Promise 10", "False, refused, when it isn't even or is below 0,");
        StepMachine x = new StepMachine();
        for (int at : new int[] {1, 3, SIZE - 1, SIZE + 1, MAX, -1, -2, MIN, MIN + 1}) {
            s.due("halt(" + at + ", true)", x.halt(at, true), false);
            s.due("halt(" + at + ", false)", x.halt(at, false), false);
            s.due("state(8)", x.state(8), 0);
        }
    }

    private void haltThatIsSoAlready() {
        s.says("Promise 10", "it is so already,");
        StepMachine x = new StepMachine();
        for (int at : new int[] {0, 2, SIZE, MAX - 1}) {
            s.due("halt(" + at + ", false), none", x.halt(at, false), false);
            s.due("halt(" + at + ", true)", x.halt(at, true), true);
            s.due("halt(" + at + ", true), one already", x.halt(at, true), false);
        }
        s.due("state(8)", x.state(8), 4);
        s.due("halt(0, false)", x.halt(0, false), true);
        s.due("halt(0, false), none any more", x.halt(0, false), false);
        s.due("state(8)", x.state(8), 3);
        s.due("halt(2, true), still one", x.halt(2, true), false);
        s.due("halt(MAX - 1, true), still one", x.halt(MAX - 1, true), false);
    }

    private void haltsAreEight() {
        s.says("Promise 10", "or (for on) there are 8.");
        StepMachine x = new StepMachine();
        for (int k = 0; k < 8; k++) {
            s.due("halt " + k, x.halt(10 * k, true), true);
            s.due("state(8)", x.state(8), k + 1);
        }
        s.due("halt(8, true), the ninth", x.halt(8, true), false);
        s.due("halt(8, false), with 8", x.halt(8, false), false);
        s.due("state(8)", x.state(8), 8);
        s.due("halt(20, false), with 8", x.halt(20, false), true);
        s.due("halt(8, true), the eighth", x.halt(8, true), true);
        s.due("halt(20, true), the ninth", x.halt(20, true), false);
        for (int at : new int[] {70, 0, 8, 10, 60, 30, 50, 40}) {
            s.due("halt(" + at + ", false)", x.halt(at, false), true);
        }
        s.due("state(8)", x.state(8), 0);
    }
}
