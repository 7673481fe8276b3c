import java.util.Random;

/** Every long kind by its bits: what it does, its parts at their ends, and words of no kind. */
public final class LongWordsTest {

    private static final Check CHECK = new Check("LongWordsTest");
    private static final int MIN = Integer.MIN_VALUE;
    private static final int MAX = Integer.MAX_VALUE;

    public static void main(String[] args) {
        writtenWords();
        pairs();
        immediates();
        upper();
        branches();
        jumps();
        loads();
        stores();
        fence();
        registerZero();
        sameRegisters();
        wordsOfNoKind();
        CHECK.end();
    }

    /** Words that are written out here, against the rows that the other tests go by. */
    private static void writtenWords() {
        Object[][] rows = {
            {0xfffff0b7, "lui", 1, 0, 0, 0xfffff}, {0x00001f97, "auipc", 31, 0, 0, 1},
            {0xffdff0ef, "jal", 1, 0, 0, -4}, {0x0080006f, "jal", 0, 0, 0, 8}, {0x001000ef, "jal", 1, 0, 0, 2048},
            {0xfff100e7, "jalr", 1, 2, 0, -1}, {0x00208463, "beq", 0, 1, 2, 8}, {0xfe209ee3, "bne", 0, 1, 2, -4},
            {0x0020c463, "blt", 0, 1, 2, 8}, {0x0020d463, "bge", 0, 1, 2, 8}, {0x0020e463, "bltu", 0, 1, 2, 8},
            {0x0020f463, "bgeu", 0, 1, 2, 8}, {0x002080e3, "beq", 0, 1, 2, 2048}, {0x00410083, "lb", 1, 2, 0, 4},
            {0x00411083, "lh", 1, 2, 0, 4}, {0x00412083, "lw", 1, 2, 0, 4}, {0x00414083, "lbu", 1, 2, 0, 4},
            {0x00415083, "lhu", 1, 2, 0, 4}, {0x00110223, "sb", 0, 2, 1, 4}, {0x00111223, "sh", 0, 2, 1, 4},
            {0x00112223, "sw", 0, 2, 1, 4}, {0xfe112fa3, "sw", 0, 2, 1, -1}, {0x00510093, "addi", 1, 2, 0, 5},
            {0x00512093, "slti", 1, 2, 0, 5}, {0x00513093, "sltiu", 1, 2, 0, 5}, {0x00514093, "xori", 1, 2, 0, 5},
            {0x00516093, "ori", 1, 2, 0, 5}, {0x00517093, "andi", 1, 2, 0, 5}, {0x00511093, "slli", 1, 2, 0, 5},
            {0x00515093, "srli", 1, 2, 0, 5}, {0x40515093, "srai", 1, 2, 0, 5}, {0x003100b3, "add", 1, 2, 3, 0},
            {0x403100b3, "sub", 1, 2, 3, 0}, {0x003110b3, "sll", 1, 2, 3, 0}, {0x003120b3, "slt", 1, 2, 3, 0},
            {0x003130b3, "sltu", 1, 2, 3, 0}, {0x003140b3, "xor", 1, 2, 3, 0}, {0x003150b3, "srl", 1, 2, 3, 0},
            {0x403150b3, "sra", 1, 2, 3, 0}, {0x003160b3, "or", 1, 2, 3, 0}, {0x003170b3, "and", 1, 2, 3, 0},
            {0x023100b3, "mul", 1, 2, 3, 0}, {0x023110b3, "mulh", 1, 2, 3, 0}, {0x023120b3, "mulhsu", 1, 2, 3, 0},
            {0x023130b3, "mulhu", 1, 2, 3, 0}, {0x023140b3, "div", 1, 2, 3, 0}, {0x023150b3, "divu", 1, 2, 3, 0},
            {0x023160b3, "rem", 1, 2, 3, 0}, {0x023170b3, "remu", 1, 2, 3, 0}, {0x0ff0000f, "fence", 0, 0, 0, 0},
            {0x00000073, "ecall", 0, 0, 0, 0}, {0x00100073, "ebreak", 0, 0, 0, 0},
        };
        for (Object[] row : rows) {
            int w = Kinds.word((String) row[1], (int) row[2], (int) row[3], (int) row[4], (int) row[5]);
            CHECK.due("the bits of " + row[1], w, (int) row[0]);
        }
    }

    private static void pairs() {
        pair("add", MAX, 1, MIN);
        pair("add", -5, 3, -2);
        pair("sub", MIN, 1, MAX);
        pair("sub", 3, 5, -2);
        pair("sll", 1, 31, MIN);
        pair("sll", 3, 33, 6);
        pair("slt", -1, 0, 1);
        pair("slt", 0, 0, 0);
        pair("slt", MAX, MIN, 0);
        pair("sltu", -1, 0, 0);
        pair("sltu", 0, -1, 1);
        pair("sltu", 7, 7, 0);
        pair("xor", 0b1100, 0b1010, 0b0110);
        pair("or", 0b1100, 0b1010, 0b1110);
        pair("and", 0b1100, 0b1010, 0b1000);
        pair("srl", -1, 28, 15);
        pair("srl", -1, 32, -1);
        pair("sra", -16, 2, -4);
        pair("sra", MIN, -1, -1);
        pair("mul", 0x10001, 0x10001, 0x20001);
        pair("mul", -3, 7, -21);
        pair("mulh", MIN, MIN, 0x40000000);
        pair("mulh", -1, 1, -1);
        pair("mulh", -1, -1, 0);
        pair("mulhu", -1, -1, -2);
        pair("mulhu", MIN, 2, 1);
        pair("mulhsu", -1, -1, -1);
        pair("mulhsu", 2, -1, 1);
        pair("mulhsu", MIN, -1, MIN);
        pair("div", -7, 2, -3);
        pair("div", 7, -2, -3);
        pair("div", 7, 0, -1);
        pair("div", MIN, -1, MIN);
        pair("divu", -7, 2, 0x7ffffffc);
        pair("divu", 7, -1, 0);
        pair("divu", MIN, -1, 0);
        pair("divu", 7, 0, -1);
        pair("rem", -7, 2, -1);
        pair("rem", 7, -2, 1);
        pair("rem", -7, 0, -7);
        pair("rem", MIN, -1, 0);
        pair("remu", -7, 2, 1);
        pair("remu", MIN, -1, MIN);
        pair("remu", -7, 0, -7);
    }

    private static void pair(String name, int a, int b, int want) {
        for (int[] regs : new int[][] {{10, 11, 12}, {31, 1, 16}, {5, 5, 6}, {6, 5, 6}}) {
            StepMachine x = Load.machine(Kinds.word(name, regs[0], regs[1], regs[2], 0));
            x.set(regs[1], a);
            x.set(regs[2], b);
            String call = name + " of " + a + " and " + b;
            CHECK.due(call + ": step()", x.step(), 0);
            CHECK.due(call, x.get(regs[0]), want);
            CHECK.due(call + ": PC", x.get(32), 4);
        }
    }

    private static void immediates() {
        immediate("addi", 1, -2048, -2047);
        immediate("addi", MAX, 2047, MIN + 2046);
        immediate("slti", -1, 0, 1);
        immediate("slti", -2048, -2048, 0);
        immediate("slti", MIN, -2048, 1);
        immediate("sltiu", 5, -1, 1);
        immediate("sltiu", -1, -1, 0);
        immediate("sltiu", -2049, -2048, 1);
        immediate("sltiu", 0, 1, 1);
        immediate("sltiu", -1, 1, 0);
        immediate("xori", 0x0f0f, -1, ~0x0f0f);
        immediate("ori", 0x10000, -2048, -2048 | 0x10000);
        immediate("andi", -1, 2047, 2047);
        immediate("andi", -1, -2048, -2048);
        immediate("slli", 1, 31, MIN);
        immediate("slli", -1, 0, -1);
        immediate("srli", -1, 31, 1);
        immediate("srli", MIN, 4, 0x08000000);
        immediate("srai", MIN, 31, -1);
        immediate("srai", MIN, 4, 0xf8000000);
        immediate("srai", MAX, 30, 1);
    }

    private static void immediate(String name, int a, int i, int want) {
        StepMachine x = Load.machine(Kinds.word(name, 21, 9, 0, i));
        x.set(9, a);
        CHECK.due(name + ": step()", x.step(), 0);
        CHECK.due(name + " of " + a + " and " + i, x.get(21), want);
        CHECK.due(name + ": the register a", x.get(9), a);
        CHECK.due(name + ": PC", x.get(32), 4);
    }

    private static void upper() {
        for (int i : new int[] {0, 1, 0x7ffff, 0x80000, 0xfffff}) {
            StepMachine x = Load.machine(0x0001, Kinds.word("lui", 30, 0, 0, i), Kinds.word("auipc", 3, 0, 0, i));
            CHECK.due("lui, auipc: run(3)", x.run(3), 3);
            CHECK.due("lui " + i, x.get(30), i * 4096);
            CHECK.due("auipc " + i, x.get(3), 6 + i * 4096);
            CHECK.due("PC", x.get(32), 10);
        }
    }

    private static void branches() {
        Object[][] rows = {
            {"beq", 5, 5, true}, {"beq", 5, 6, false}, {"bne", 5, 6, true}, {"bne", 5, 5, false},
            {"blt", -1, 0, true}, {"blt", 0, 0, false}, {"blt", 0, -1, false}, {"bge", 0, 0, true},
            {"bge", 0, -1, true}, {"bge", -1, 0, false}, {"bltu", 0, -1, true}, {"bltu", -1, 0, false},
            {"bltu", 3, 3, false}, {"bgeu", -1, 0, true}, {"bgeu", 3, 3, true}, {"bgeu", 0, -1, false},
        };
        for (Object[] row : rows) {
            for (int i : new int[] {-4096, -2048, -2, 0, 2, 4, 30, 32, 1024, 2048, 4094}) {
                branch((String) row[0], (int) row[1], (int) row[2], i, (boolean) row[3]);
            }
        }
    }

    private static void branch(String name, int a, int b, int i, boolean isTaken) {
        StepMachine x = new StepMachine();
        x.segment(3, 8192, 4, 4);
        Load.words(x, 8192, Kinds.word(name, 0, 4, 29, i));
        x.set(4, a);
        x.set(29, b);
        x.set(32, 8192);
        CHECK.due(name + ": step()", x.step(), 0);
        CHECK.due(name + " " + a + ", " + b + " by " + i, x.get(32), isTaken ? 8192 + i : 8196);
    }

    private static void jumps() {
        for (int i : new int[] {-1048576, -2048, -4, -2, 0, 2, 16, 2048, 4096, 524288, 1048574}) {
            StepMachine x = Load.machine();
            Load.words(x, 64, Load.jal(7, i));
            x.set(32, 64);
            CHECK.due("jal: step()", x.step(), 0);
            CHECK.due("jal by " + i, x.get(32), 64 + i);
            CHECK.due("jal: d", x.get(7), 68);
        }
        for (int i : new int[] {-2048, -1, 0, 1, 2047}) {
            for (int a : new int[] {1000, 1001, -1, MAX, MIN}) {
                StepMachine x = Load.machine(Kinds.word("jalr", 7, 7, 0, i));
                x.set(7, a);
                CHECK.due("jalr: step()", x.step(), 0);
                CHECK.due("jalr to " + a + " and " + i, x.get(32), a + i & -2);
                CHECK.due("jalr: d", x.get(7), 4);
            }
        }
    }

    private static void loads() {
        StepMachine x = new StepMachine();
        x.segment(0, 0, 64, 4);
        x.segment(1, 512, 8, 1);
        x.poke(512, 8, 0x80ff7f8081828384L);
        load(x, "lb", 512, -128);
        load(x, "lb", 514, 127);
        load(x, "lbu", 512, 128);
        load(x, "lbu", 519, 0x84);
        load(x, "lh", 512, (short) 0xff80);
        load(x, "lh", 514, (short) 0x807f);
        load(x, "lhu", 512, 0xff80);
        load(x, "lhu", 518, 0x8483);
        load(x, "lw", 512, 0x807fff80);
        load(x, "lw", 516, 0x84838281);
    }

    private static void load(StepMachine x, String name, int at, int want) {
        for (int i : new int[] {-2048, 0, 2047}) {
            Load.words(x, 0, Kinds.word(name, 8, 8, 0, i));
            x.set(8, at - i);
            x.set(32, 0);
            CHECK.due(name + ": step()", x.step(), 0);
            CHECK.due(name + " at " + at, x.get(8), want);
        }
    }

    private static void stores() {
        store("sb", 512, 0x12345678, 0x78ffffffffffffffL);
        store("sb", 515, 0x12345678, 0xffffff78ffffffffL);
        store("sb", 519, 0x12345678, 0xffffffffffffff78L);
        store("sh", 512, 0x12345678, 0x7856ffffffffffffL);
        store("sh", 518, 0x12345678, 0xffffffffffff7856L);
        store("sw", 512, 0x12345678, 0x78563412ffffffffL);
        store("sw", 516, 0x12345678, 0xffffffff78563412L);
    }

    private static void store(String name, int at, int v, long want) {
        for (int i : new int[] {-2048, -1, 0, 31, 32, 2047}) {
            StepMachine x = new StepMachine();
            x.segment(0, 0, 64, 4);
            x.segment(1, 512, 8, 2);
            x.poke(512, 8, -1L);
            Load.words(x, 0, Kinds.word(name, 0, 3, 28, i));
            x.set(3, at - i);
            x.set(28, v);
            CHECK.due(name + ": step()", x.step(), 0);
            for (int k = 0; k < 8; k++) {
                CHECK.due(name + " at " + at + ": peek(" + (512 + k) + ")", x.peek(512 + k), want >>> 56 - 8 * k & 255);
            }
            CHECK.due(name + ": PC", x.get(32), 4);
        }
    }

    private static void fence() {
        StepMachine x = Load.machine(0x0ff0000f);
        for (int r = 1; r < 32; r++) {
            x.set(r, r);
        }
        CHECK.due("fence: step()", x.step(), 0);
        for (int r = 1; r < 32; r++) {
            CHECK.due("fence: get(" + r + ")", x.get(r), r);
        }
        CHECK.due("fence: PC", x.get(32), 4);
        CHECK.due("fence: steps", x.state(3), 1);
    }

    private static void registerZero() {
        String[] names = {"lui", "auipc", "jal", "jalr", "lw", "addi", "xori", "slli", "add", "sub", "div", "remu"};
        for (String name : names) {
            StepMachine x = Load.machine(Kinds.word(name, 0, 5, 6, 4));
            x.set(5, 100);
            x.set(6, 7);
            CHECK.due(name + " with d 0: step()", x.step(), 0);
            CHECK.due(name + " with d 0: get(0)", x.get(0), 0);
            CHECK.due(name + " with d 0: back(1)", x.back(1), 1);
            CHECK.due(name + " with d 0, undone: get(0)", x.get(0), 0);
        }
        StepMachine x = Load.machine(Kinds.word("add", 5, 0, 0, 0));
        x.set(5, 3);
        x.step();
        CHECK.due("add of register 0 twice", x.get(5), 0);
    }

    private static void sameRegisters() {
        StepMachine x = Load.machine(Kinds.word("sub", 9, 9, 9, 0));
        x.set(9, 77);
        x.step();
        CHECK.due("sub of a register from itself", x.get(9), 0);
        StepMachine y = Load.machine(Kinds.word("sw", 0, 9, 9, 0));
        y.set(9, 256);
        y.step();
        CHECK.due("sw of its own address", y.peek(257), 1);
    }

    private static void wordsOfNoKind() {
        int[] rows = {
            0x0000100f, 0x0000000f, 0x0ff0008f, 0x00200073, 0x00000173, 0x10500073, 0x30200073, 0x00101073,
            0xffffffff, 0x0000007f, 0x0000001f, 0x02001013, 0x40001013, 0x20005013, 0x42005013, 0x00003003,
            0x00006003, 0x00007003, 0x00003023, 0x00007023, 0x00002063, 0x00003063, 0x00001067, 0x00007067,
            0x40001033, 0x40007033, 0x04000033, 0x42000033, 0x0000000b, 0x0000003b, 0x0000002f, 0x00000057,
        };
        for (int w : rows) {
            dueNoKind(w);
        }
        bitsThatAreNoParts();
        wordsByChance();
    }

    private static void bitsThatAreNoParts() {
        for (Kinds.Kind kind : Kinds.ALL) {
            int w = kind.isShort() ? 0 : Kinds.word(kind.name, 1, 2, 3, 4);
            for (int k = 2; k < 32 && !kind.isShort(); k++) {
                int other = w ^ 1 << k;
                if (Kinds.read(other) == null) {
                    dueNoKind(other);
                }
            }
        }
    }

    private static void wordsByChance() {
        Random chance = new Random(5);
        int[] opcodes = {0x13, 0x33, 0x63, 0x03, 0x23, 0x67, 0x73, 0x0f};
        for (int k = 0; k < 20000; k++) {
            int w = chance.nextInt() & ~127 | opcodes[chance.nextInt(opcodes.length)];
            w = chance.nextBoolean() ? w & 0x03ffffff : w;
            if (Kinds.read(w) == null) {
                dueNoKind(w);
            } else {
                StepMachine x = Load.machine(w);
                CHECK.due(Integer.toHexString(w) + " is of a kind", x.step() == 2, false);
            }
        }
    }

    private static void dueNoKind(int w) {
        StepMachine x = Load.machine(0x0001, w);
        x.step();
        String call = Integer.toHexString(w);
        CHECK.due(call + ": step()", x.step(), 2);
        CHECK.due(call + ": the culprit", x.state(1), 2);
        CHECK.due(call + ": PC", x.get(32), 2);
        CHECK.due(call + ": steps", x.state(3), 1);
    }
}
