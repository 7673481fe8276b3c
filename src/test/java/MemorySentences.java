/** What the document says of memory, segments, marks, halts, registers, and bytes in and out. */
final class MemorySentences {

    private static final int SIZE = 131072;
    private static final int MIN = Integer.MIN_VALUE;
    private static final int MAX = Integer.MAX_VALUE;

    private final Sentences s;

    MemorySentences(Sentences s) {
        this.s = s;
    }

    void all() {
        whatItIs();
        anObjectIsUsedFor512Calls();
        memoryHasItsEnds();
        memoryIsZeroAtFirst();
        lowestByteFirst();
        segmentsHaveBeginningAndSize();
        rightsAreASum();
        segmentsHaveSizeZeroAtFirst();
        leastNumberThatHasIt();
        noneWithoutASegment();
        noneBeyondMemory();
        eachEvenAddressIsMarkedOrNot();
        markingIsOffAtFirst();
        atMostEightHalts();
        registersAreInts();
        registerZeroIsZeroAlways();
        pcIsEven();
        allAreZeroAtFirst();
        inputHasAtMost1000();
        outputHasAtMost2000();
        noneInAndOutAtFirst();
    }

    /** Puts what it gets, up to an ecall of END at 18; LONG and SHORT words by turns. */
    private static StepMachine echo() {
        StepMachine x = new StepMachine();
        Load.words(x, 0, Kinds.word("c.li", 17, 0, 0, 2), Load.ecall(), Kinds.word("blt", 0, 10, 0, 12),
                Kinds.word("c.li", 17, 0, 0, 1), Load.ecall(), Kinds.word("c.j", 0, 0, 0, -16),
                Kinds.word("c.li", 17, 0, 0, 10), Load.ecall());
        x.input(2, 0x41f0L << 48);
        x.marking(true);
        x.mark(0, true);
        return x;
    }

    private void whatItIs() {
        s.says("What it is", "A machine of 32 bits that works by instruction words of 32 and 16 bits in a memory with rights,",
                "with marks that jumps must go to, services for bytes in and out, places to halt at, and steps that can be taken back.");
        StepMachine x = echo();
        s.due("without rights: run(9)", x.run(9), 0);
        s.dueState("without rights", x, 1, 0, 0, 0);
        x.segment(0, 0, 24, 4);
        x.set(33, 0);
        x.halt(16, true);
        s.due("to the halt: run(9)", x.run(9), 1);
        s.dueState("to the halt", x, 9, 16, 16, 5);
        s.due("output(0)", x.output(0), 0x41);
        s.due("back(5)", x.back(5), 5);
        s.dueState("taken back", x, 0, 0, 0, 0);
        s.due("output(0)", x.output(0), -1);
        s.due("once more: run(9)", x.run(9), 1);
        s.due("on: run(9)", x.run(9), 1);
        s.due("output(1)", x.output(1), 0xf0);
        s.due("to where no mark is: run(9)", x.run(9), 1);
        s.dueState("to where no mark is", x, 5, 18, 18, 15);
        x.mark(18, true);
        x.set(33, 0);
        s.due("to the end: run(9)", x.run(9), 1);
        s.dueState("to the end", x, 8, 20, 20, 17);
        s.due("the VALUE", x.state(2), -1);
    }

    private void anObjectIsUsedFor512Calls() {
        s.says("What it is", "An object is used for at most 512 calls after it has been made; what later calls answer is free.");
        StepMachine x = new StepMachine();
        x.segment(0, 0, 8, 4);
        x.poke(0, 8, 0x938212006ff0dfffL);
        for (int call = 3; call <= 511; call++) {
            s.due("step(), call " + call, x.step(), 0);
        }
        s.due("get(5), call 512", x.get(5), 255);
    }

    private void memoryHasItsEnds() {
        s.says("Terms", "MEMORY has 131,072 bytes, addresses 0 .. 131,071");
        StepMachine x = new StepMachine();
        s.due("poke(0, 1)", x.poke(0, 1, 0xa1L << 56), true);
        s.due("poke(131071, 1)", x.poke(SIZE - 1, 1, 0xa2L << 56), true);
        s.due("poke(131072, 1)", x.poke(SIZE, 1, 0xa3L << 56), false);
        s.due("poke(-1, 1)", x.poke(-1, 1, 0xa4L << 56), false);
        s.due("peek(0)", x.peek(0), 0xa1);
        s.due("peek(131071)", x.peek(SIZE - 1), 0xa2);
        s.due("peek(131072)", x.peek(SIZE), -1);
        s.due("peek(-1)", x.peek(-1), -1);
    }

    private void memoryIsZeroAtFirst() {
        s.says("Terms", "(0 at first); numbers of 2");
        for (int from = 0; from < SIZE; from += 512) {
            StepMachine x = new StepMachine();
            int sum = 0;
            for (int at = from; at < from + 512; at++) {
                sum += x.peek(at);
            }
            s.due("the bytes from " + from + " on", sum, 0);
        }
    }

    private void lowestByteFirst() {
        s.says("Terms", "numbers of 2 and 4 bytes lie with the lowest byte first.");
        for (int at : new int[] {0, 4, SIZE - 4}) {
            dueBytes("sw", at, new int[] {0x84, 0x93, 0xa2, 0xb1});
            dueBytes("sh", at, new int[] {0x84, 0x93, 0, 0});
            dueBytes("sh", at + 2, new int[] {0x84, 0x93});
            dueNumber("lw", at, 0xb1a29384);
            dueNumber("lhu", at, 0x9384);
            dueNumber("lhu", at + 2, 0xb1a2);
        }
    }

    private static StepMachine machineAt512(int w) {
        StepMachine x = new StepMachine();
        x.segment(0, 0, SIZE, 7);
        Load.words(x, 512, w);
        x.set(32, 512);
        return x;
    }

    private void dueBytes(String name, int at, int[] want) {
        StepMachine x = machineAt512(Kinds.word(name, 0, 6, 7, 0));
        x.set(6, at);
        x.set(7, 0xb1a29384);
        s.due(name + " at " + at + ": step()", x.step(), 0);
        for (int k = 0; k < want.length; k++) {
            s.due(name + " at " + at + ": byte " + k, x.peek(at + k), want[k]);
        }
    }

    private void dueNumber(String name, int at, int want) {
        StepMachine x = machineAt512(Kinds.word(name, 5, 6, 0, 0));
        x.poke(at & ~3, 4, 0x8493a2b1L << 32);
        x.set(6, at);
        s.due(name + " at " + at + ": step()", x.step(), 0);
        s.due(name + " at " + at, x.get(5), want);
    }

    private void segmentsHaveBeginningAndSize() {
        s.says("Terms", "SEGMENTS 0 .. 7 have a beginning, a size and RIGHTS");
        StepMachine x = new StepMachine();
        for (int k = 0; k < 8; k++) {
            s.due("segment(" + k + ")", x.segment(k, 100 * k + 1, 10 + k, 7 - k), true);
        }
        for (int k = 0; k < 8; k++) {
            int from = 100 * k + 1;
            s.due("ahead of segment " + k, x.rights(from - 1), 0);
            s.due("the beginning of segment " + k, x.rights(from), 7 - k);
            s.due("the last of segment " + k, x.rights(from + 9 + k), 7 - k);
            s.due("behind segment " + k, x.rights(from + 10 + k), 0);
        }
        s.due("segment(-1)", x.segment(-1, 0, 9, 7), false);
        s.due("segment(8)", x.segment(8, 0, 9, 7), false);
    }

    private void rightsAreASum() {
        s.says("Terms", "a sum of 1 read, 2 write, 4 execute");
        for (int rights = 0; rights < 8; rights++) {
            s.due("a load with " + rights, accessed("lw", rights), (rights & 1) != 0 ? 0 : 3);
            s.due("a store with " + rights, accessed("sw", rights), (rights & 2) != 0 ? 0 : 4);
            StepMachine x = new StepMachine();
            x.segment(0, 64, 2, rights);
            Load.words(x, 64, Load.nop());
            x.set(32, 64);
            s.due("a word with " + rights, x.step(), (rights & 4) != 0 ? 0 : 1);
        }
    }

    private static int accessed(String name, int rights) {
        StepMachine x = new StepMachine();
        x.segment(0, 0, 4, 4);
        x.segment(1, 64, 4, rights);
        Load.words(x, 0, Kinds.word(name, 5, 0, 6, 64));
        return x.step();
    }

    private void segmentsHaveSizeZeroAtFirst() {
        s.says("Terms", "(size 0 at first)");
        for (int from = 0; from < SIZE; from += 512) {
            StepMachine x = new StepMachine();
            int sum = 0;
            for (int at = from; at < from + 512; at++) {
                sum += x.rights(at);
            }
            s.due("the rights from " + from + " on", sum, 0);
        }
        StepMachine x = new StepMachine();
        s.due("step() without a segment", x.step(), 1);
    }

    private void leastNumberThatHasIt() {
        s.says("Terms", "An address has the RIGHTS of the segment of the least number that has it");
        StepMachine x = new StepMachine();
        x.segment(7, 0, SIZE, 1);
        x.segment(5, 100, 10, 7);
        x.segment(6, 105, 10, 2);
        s.due("rights(99), of 7", x.rights(99), 1);
        s.due("rights(100), of 5 and 7", x.rights(100), 7);
        s.due("rights(109), of 5, 6 and 7", x.rights(109), 7);
        s.due("rights(110), of 6 and 7", x.rights(110), 2);
        s.due("rights(115), of 7", x.rights(115), 1);
        x.segment(0, 104, 2, 0);
        s.due("rights(103)", x.rights(103), 7);
        s.due("rights(104), the least number gives none", x.rights(104), 0);
        s.due("rights(105), the least number gives none", x.rights(105), 0);
        s.due("rights(106)", x.rights(106), 7);
        x.segment(0, 104, 0, 3);
        s.due("rights(104), a segment of size 0 has no address", x.rights(104), 7);
    }

    private void noneWithoutASegment() {
        s.says("Terms", "none without one");
        StepMachine x = new StepMachine();
        x.segment(3, 10, 10, 7);
        s.due("rights(9)", x.rights(9), 0);
        s.due("rights(20)", x.rights(20), 0);
        x.set(32, 20);
        s.due("step() at 20", x.step(), 1);
        StepMachine y = Load.machine(Kinds.word("lb", 5, 6, 0, 0));
        y.set(6, 4096);
        s.due("a load behind the segment", y.step(), 3);
        StepMachine z = Load.machine(Kinds.word("sb", 0, 6, 5, 0));
        z.set(6, 4096);
        s.due("a store behind the segment", z.step(), 4);
        s.due("peek(4096)", z.peek(4096), 0);
    }

    private void noneBeyondMemory() {
        s.says("Terms", "or beyond memory (addresses of instructions are 0 .. 2^32 - 1).");
        for (int at : new int[] {SIZE, SIZE + 2, MAX - 1, MIN, -2}) {
            StepMachine x = new StepMachine();
            x.segment(0, 0, SIZE, 7);
            s.due("rights(" + at + ")", x.rights(at), 0);
            s.due("set(32, " + at + ")", x.set(32, at), true);
            s.due("step() at " + at, x.step(), 1);
            s.dueState("a step at " + at, x, 1, at, at, 0);
        }
        for (int at : new int[] {SIZE, MAX - 3, MIN, -4}) {
            StepMachine x = Load.machine(Kinds.word("lw", 5, 6, 0, 0), Kinds.word("sw", 0, 6, 5, 0));
            x.segment(0, 0, SIZE, 7);
            x.set(6, at);
            s.due("lw at " + at, x.step(), 3);
            x.set(33, 0);
            x.set(32, 4);
            s.due("sw at " + at, x.step(), 4);
        }
    }

    private void eachEvenAddressIsMarkedOrNot() {
        s.says("Terms", "MARKS: each even address is marked or not (not at first)");
        for (int from = 0; from < SIZE; from += SIZE - 1000) {
            StepMachine x = new StepMachine();
            for (int at = from; at < from + 480; at += 6) {
                s.due("rights(" + at + ") at first", x.rights(at), 0);
                x.mark(at, true);
            }
            for (int at = from; at < from + 240; at++) {
                s.due("rights(" + at + ")", x.rights(at), (at - from) % 6 == 0 ? 8 : 0);
            }
        }
        StepMachine x = new StepMachine();
        for (int at : new int[] {0, 2, 62, 64, SIZE - 2}) {
            s.due("mark(" + at + ", true)", x.mark(at, true), true);
            s.due("rights(" + at + ")", x.rights(at), 8);
            s.due("rights(" + (at + 1) + ")", x.rights(at + 1), 0);
            s.due("mark(" + at + ", false)", x.mark(at, false), true);
            s.due("rights(" + at + ")", x.rights(at), 0);
        }
    }

    private void markingIsOffAtFirst() {
        s.says("Terms", "MARKING is on or off (off at first)");
        StepMachine x = Load.machine(Load.jal(0, 0));
        s.due("a jump to no mark, at first", x.step(), 0);
        x.marking(true);
        s.due("a jump to no mark, on", x.step(), 5);
        x.set(33, 0);
        x.marking(false);
        s.due("a jump to no mark, off", x.step(), 0);
    }

    private void atMostEightHalts() {
        s.says("Terms", "HALTS: at most 8 even addresses.");
        StepMachine x = new StepMachine();
        for (int k = 0; k < 8; k++) {
            s.due("halt " + k, x.halt(2 * k, true), true);
        }
        s.due("a ninth", x.halt(16, true), false);
        s.due("state(8)", x.state(8), 8);
        StepMachine y = new StepMachine();
        s.due("halt(1, true)", y.halt(1, true), false);
        s.due("halt(131071, true)", y.halt(SIZE - 1, true), false);
        s.due("state(8)", y.state(8), 0);
    }

    private void registersAreInts() {
        s.says("Terms", "REGISTERS 0 .. 31 are ints");
        StepMachine x = Load.machine(Kinds.word("add", 31, 1, 30, 0));
        for (int r = 1; r < 32; r++) {
            s.due("set(" + r + ", MIN)", x.set(r, MIN), true);
            s.due("get(" + r + ")", x.get(r), MIN);
            s.due("set(" + r + ", MAX)", x.set(r, MAX), true);
            s.due("get(" + r + ")", x.get(r), MAX);
        }
        s.due("step()", x.step(), 0);
        s.due("get(31)", x.get(31), -2);
        s.due("set(0, 1)", x.set(0, 1), false);
        s.due("set(34, 1)", x.set(34, 1), false);
    }

    private void registerZeroIsZeroAlways() {
        s.says("Terms", "register 0 is 0 always");
        for (Kinds.Kind kind : Kinds.ALL) {
            if (kind.has("d") && !kind.isShort()) {
                StepMachine x = Load.machine(Kinds.word(kind.name, 0, 5, 6, 4), Kinds.word("add", 7, 0, 0, 0));
                x.set(5, 100);
                x.set(6, 7);
                s.due(kind.name + ": step()", x.step(), 0);
                s.due(kind.name + ": get(0)", x.get(0), 0);
                x.set(32, 4);
                x.set(7, 1);
                x.step();
                s.due(kind.name + ": 0 and 0", x.get(7), 0);
                s.due(kind.name + ": back(1)", x.back(1), 1);
                s.due(kind.name + ", taken back: get(0)", x.get(0), 0);
            }
        }
        StepMachine x = new StepMachine();
        s.due("set(0, 5)", x.set(0, 5), false);
        s.due("get(0)", x.get(0), 0);
    }

    private void pcIsEven() {
        s.says("Terms", "PC is an address, even");
        StepMachine x = Load.machine(Kinds.word("jalr", 0, 5, 0, 0));
        s.due("set(32, 3)", x.set(32, 3), false);
        s.due("set(32, -1)", x.set(32, -1), false);
        s.due("set(32, MAX)", x.set(32, MAX), false);
        s.due("get(32)", x.get(32), 0);
        x.set(5, -1);
        s.due("a jump to 2^32 - 1", x.step(), 0);
        s.due("get(32)", x.get(32), -2);
        s.due("set(32, -2)", x.set(32, -2), true);
        s.due("set(32, MIN)", x.set(32, MIN), true);
        s.due("get(32)", x.get(32), MIN);
        s.due("set(32, MAX - 1)", x.set(32, MAX - 1), true);
        s.due("get(32)", x.get(32), MAX - 1);
    }

    private void allAreZeroAtFirst() {
        s.says("Terms", "(all 0 at first)");
        StepMachine x = new StepMachine();
        for (int r = 0; r <= 32; r++) {
            s.due("get(" + r + ")", x.get(r), 0);
        }
    }

    private void inputHasAtMost1000() {
        s.says("Terms", "INPUT and OUTPUT are rows of bytes, at most 1000 and");
        StepMachine x = new StepMachine();
        for (int k = 0; k < 125; k++) {
            s.due("input(8), call " + k, x.input(8, 0L), true);
        }
        s.due("state(6)", x.state(6), 1000);
        s.due("input(1), the 1001st", x.input(1, 0L), false);
        s.due("state(6)", x.state(6), 1000);
    }

    private void outputHasAtMost2000() {
        s.says("Terms", "and 2000 (none");
        StepMachine x = Load.machine(Load.ecall(), Load.jal(0, -4));
        x.set(17, 1);
        x.run(2000);
        s.due("run(2000)", x.run(2000), 2000);
        s.due("state(5)", x.state(5), 2000);
        s.due("output(1999)", x.output(1999), 1999 & 255);
        s.due("a step more", x.step(), 0);
        s.due("state(5)", x.state(5), 2000);
        s.due("output(2000)", x.output(2000), -1);
    }

    private void noneInAndOutAtFirst() {
        s.says("Terms", "(none at first).");
        StepMachine x = Load.machine(Load.ecall());
        s.due("state(5)", x.state(5), 0);
        s.due("state(6)", x.state(6), 0);
        s.due("output(0)", x.output(0), -1);
        x.set(17, 2);
        x.step();
        s.due("the first byte of INPUT", x.get(10), -1);
    }
}
