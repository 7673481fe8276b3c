import java.util.Random;

/** Words of 32 bits by chance: whether they are of a kind; and the rows of Kinds, that tell it. */
public final class LongWordsTest {

    private static final Check CHECK = new Check("LongWordsTest");

    public static void main(String[] args) {
        writtenWords();
        wordsOfNoKind();
        wordsByChance();
        CHECK.end();
    }

    /** Words that are written out here, against the rows that the other tests go by. */
    private static void writtenWords() {
        Object[][] rows = {
            {0xfffff0b7, "lui", 1, 0, 0, 0xfffff}, {0x00001f97, "auipc", 31, 0, 0, 1},
            {0xffdff0ef, "jal", 1, 0, 0, -4}, {0x0080006f, "jal", 0, 0, 0, 8}, {0x001000ef, "jal", 1, 0, 0, 2048},
            {0xfff100e7, "jalr", 1, 2, 0, -1}, {0x00208463, "beq", 0, 1, 2, 8}, {0xfe209ee3, "bne", 0, 1, 2, -4},
            {0x0020c463, "blt", 0, 1, 2, 8}, {0x0020d463, "bge", 0, 1, 2, 8}, {0x0020e463, "bltu", 0, 1, 2, 8},
            {0x0020f463, "bgeu", 0, 1, 2, 8}, {0x002080e3, "beq", 0, 1, 2, 2048}, {0x00410083, "lb", 1, 2, 0, 4},
            {0x00411083, "lh", 1, 2, 0, 4}, {0x00412083, "lw", 1, 2, 0, 4}, {0x00414083, "lbu", 1, 2, 0, 4},
            {0x00415083, "lhu", 1, 2, 0, 4}, {0x00110223, "sb", 0, 2, 1, 4}, {0x00111223, "sh", 0, 2, 1, 4},
            {0x00112223, "sw", 0, 2, 1, 4}, {0xfe112fa3, "sw", 0, 2, 1, -1}, {0x00510093, "addi", 1, 2, 0, 5},
            {0x00512093, "slti", 1, 2, 0, 5}, {0x00513093, "sltiu", 1, 2, 0, 5}, {0x00514093, "xori", 1, 2, 0, 5},
            {0x00516093, "ori", 1, 2, 0, 5}, {0x00517093, "andi", 1, 2, 0, 5}, {0x00511093, "slli", 1, 2, 0, 5},
            {0x00515093, "srli", 1, 2, 0, 5}, {0x40515093, "srai", 1, 2, 0, 5}, {0x003100b3, "add", 1, 2, 3, 0},
            {0x403100b3, "sub", 1, 2, 3, 0}, {0x003110b3, "sll", 1, 2, 3, 0}, {0x003120b3, "slt", 1, 2, 3, 0},
            {0x003130b3, "sltu", 1, 2, 3, 0}, {0x003140b3, "xor", 1, 2, 3, 0}, {0x003150b3, "srl", 1, 2, 3, 0},
            {0x403150b3, "sra", 1, 2, 3, 0}, {0x003160b3, "or", 1, 2, 3, 0}, {0x003170b3, "and", 1, 2, 3, 0},
            {0x023100b3, "mul", 1, 2, 3, 0}, {0x023110b3, "mulh", 1, 2, 3, 0}, {0x023120b3, "mulhsu", 1, 2, 3, 0},
            {0x023130b3, "mulhu", 1, 2, 3, 0}, {0x023140b3, "div", 1, 2, 3, 0}, {0x023150b3, "divu", 1, 2, 3, 0},
            {0x023160b3, "rem", 1, 2, 3, 0}, {0x023170b3, "remu", 1, 2, 3, 0}, {0x0ff0000f, "fence", 0, 0, 0, 0},
            {0x00000073, "ecall", 0, 0, 0, 0}, {0x00100073, "ebreak", 0, 0, 0, 0},
        };
        for (Object[] row : rows) {
            int w = Kinds.word((String) row[1], (int) row[2], (int) row[3], (int) row[4], (int) row[5]);
            CHECK.due("the bits of " + row[1], w, (int) row[0]);
        }
    }

    private static void wordsOfNoKind() {
        int[] rows = {
            0x0000100f, 0x0000000f, 0x0ff0008f, 0x00200073, 0x00000173, 0x10500073, 0x30200073, 0x00101073,
            0xffffffff, 0x0000007f, 0x0000001f, 0x02001013, 0x40001013, 0x20005013, 0x42005013, 0x00003003,
            0x00006003, 0x00007003, 0x00003023, 0x00007023, 0x00002063, 0x00003063, 0x00001067, 0x00007067,
            0x40001033, 0x40007033, 0x04000033, 0x42000033, 0x0000000b, 0x0000003b, 0x0000002f, 0x00000057,
        };
        for (int w : rows) {
            dueNoKind(w);
        }
    }

    private static void wordsByChance() {
        Random chance = new Random(5);
        int[] opcodes = {0x13, 0x33, 0x63, 0x03, 0x23, 0x67, 0x73, 0x0f};
        for (int k = 0; k < 20000; k++) {
            int w = chance.nextInt() & ~127 | opcodes[chance.nextInt(opcodes.length)];
            w = chance.nextBoolean() ? w & 0x03ffffff : w;
            if (Kinds.read(w) == null) {
                dueNoKind(w);
            } else {
                StepMachine x = Load.machine(w);
                CHECK.due(Integer.toHexString(w) + " is of a kind", x.step() == 2, false);
            }
        }
    }

    private static void dueNoKind(int w) {
        StepMachine x = Load.machine(0x0001, w);
        x.step();
        String call = Integer.toHexString(w);
        CHECK.due(call + ": step()", x.step(), 2);
        CHECK.due(call + ": the culprit", x.state(1), 2);
        CHECK.due(call + ": PC", x.get(32), 2);
        CHECK.due(call + ": steps", x.state(3), 1);
    }
}
