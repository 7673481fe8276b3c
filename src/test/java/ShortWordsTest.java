/** All words of 16 bits: each does what its long one does, with 2 bytes, or is of no kind. */
public final class ShortWordsTest {

    private static final Check CHECK = new Check("ShortWordsTest");
    private static final int AT = 2048;
    private static final int DATA = 3072;

    public static void main(String[] args) {
        writtenWords();
        wordsOfNoKind();
        for (int w = 0; w < 65536; w++) {
            if ((w & 3) != 3) {
                compare(w);
            }
        }
        CHECK.end();
    }

    /** Words that are written out here, each with the kind and the parts that it has. */
    private static void writtenWords() {
        Object[][] rows = {
            {0x0040, "c.addi4spn", 8, 0, 0, 4}, {0x1ffc, "c.addi4spn", 15, 0, 0, 1020}, {0x0048, "c.addi4spn", 10, 0, 0, 4},
            {0x4188, "c.lw", 10, 11, 0, 0}, {0x5ffc, "c.lw", 15, 15, 0, 124}, {0x41c8, "c.lw", 10, 11, 0, 4},
            {0xc188, "c.sw", 0, 11, 10, 0}, {0xd1a8, "c.sw", 0, 11, 10, 96}, {0x0001, "c.nop", 0, 0, 0, 0},
            {0x0505, "c.addi", 10, 0, 0, 1}, {0x157d, "c.addi", 10, 0, 0, -1}, {0x1501, "c.addi", 10, 0, 0, -32},
            {0x2011, "c.jal", 0, 0, 0, 4}, {0x3ff5, "c.jal", 0, 0, 0, -4}, {0xa011, "c.j", 0, 0, 0, 4},
            {0xbff5, "c.j", 0, 0, 0, -4}, {0xa001, "c.j", 0, 0, 0, 0}, {0xb001, "c.j", 0, 0, 0, -2048},
            {0x4501, "c.li", 10, 0, 0, 0}, {0x557d, "c.li", 10, 0, 0, -1}, {0x6141, "c.addi16sp", 0, 0, 0, 16},
            {0x7139, "c.addi16sp", 0, 0, 0, -64}, {0x7101, "c.addi16sp", 0, 0, 0, -512}, {0x6505, "c.lui", 10, 0, 0, 1},
            {0x757d, "c.lui", 10, 0, 0, -1}, {0x8105, "c.srli", 10, 0, 0, 1}, {0x8505, "c.srai", 10, 0, 0, 1},
            {0x8905, "c.andi", 10, 0, 0, 1}, {0x987d, "c.andi", 8, 0, 0, -1}, {0x8d0d, "c.sub", 10, 0, 11, 0},
            {0x8d2d, "c.xor", 10, 0, 11, 0}, {0x8d4d, "c.or", 10, 0, 11, 0}, {0x8d6d, "c.and", 10, 0, 11, 0},
            {0xc111, "c.beqz", 0, 10, 0, 4}, {0xe111, "c.bnez", 0, 10, 0, 4}, {0xfd75, "c.bnez", 0, 10, 0, -4},
            {0xd101, "c.beqz", 0, 10, 0, -256}, {0x0506, "c.slli", 10, 0, 0, 1}, {0x007e, "c.slli", 0, 0, 0, 31},
            {0x4502, "c.lwsp", 10, 0, 0, 0}, {0x50fe, "c.lwsp", 1, 0, 0, 252}, {0x4512, "c.lwsp", 10, 0, 0, 4},
            {0x8082, "c.jr", 0, 1, 0, 0}, {0x852e, "c.mv", 10, 0, 11, 0}, {0x9002, "c.ebreak", 0, 0, 0, 0},
            {0x9502, "c.jalr", 0, 10, 0, 0}, {0x952e, "c.add", 10, 0, 11, 0}, {0xc02a, "c.swsp", 0, 0, 10, 0},
            {0xdf82, "c.swsp", 0, 0, 0, 252}, {0xc22a, "c.swsp", 0, 0, 10, 4},
        };
        for (Object[] row : rows) {
            int w = Kinds.word((String) row[1], (int) row[2], (int) row[3], (int) row[4], (int) row[5]);
            CHECK.due("the bits of " + row[1] + " " + row[5], w, (int) row[0]);
        }
    }

    private static void wordsOfNoKind() {
        int[] rows = {
            0x0000, 0x0004, 0x2000, 0x6000, 0x8000, 0xa000, 0xe000, 0x0005, 0x1001, 0x0501, 0x4001, 0x4005, 0x6101,
            0x6001, 0x6005, 0x6501, 0x8101, 0x9105, 0x8501, 0x9505, 0x9d0d, 0x9d2d, 0x9c41, 0x9c61, 0x0002, 0x0006,
            0x0502, 0x1506, 0x2002, 0x4002, 0x4012, 0x6002, 0x8002, 0x800e, 0x900e, 0xa002, 0xe002,
        };
        for (int w : rows) {
            CHECK.due(Integer.toHexString(w) + " is of no kind", Kinds.read(w) == null, true);
            StepMachine x = Load.machine(w);
            CHECK.due(Integer.toHexString(w) + ": step()", x.step(), 2);
            CHECK.due(Integer.toHexString(w) + ": steps", x.state(3), 0);
        }
    }

    private static StepMachine machine(int w) {
        StepMachine x = new StepMachine();
        x.segment(0, AT, 4, 4);
        x.segment(1, 0, AT, 1);
        x.segment(2, DATA, 256, 3);
        Load.words(x, AT, w);
        Load.words(x, DATA, 0x80828187, 0x12345677);
        for (int r = 1; r < 32; r++) {
            x.set(r, DATA + 4 * r);
        }
        x.set(13, 0);
        x.set(9, -77777);
        x.set(32, AT);
        return x;
    }

    private static void compare(int w) {
        String call = Integer.toHexString(w);
        StepMachine x = machine(w);
        Kinds.Parts parts = Kinds.read(w);
        if (parts == null) {
            CHECK.due(call + ": step()", x.step(), 2);
            CHECK.due(call + ": the culprit", x.state(1), AT);
            return;
        }
        Kinds.Parts behind = Kinds.behind(parts);
        StepMachine y = machine(Kinds.write(behind));
        CHECK.due(call + ": step()", x.step(), y.step());
        CHECK.due(call + ": the culprit", x.state(1), y.state(1));
        CHECK.due(call + ": steps", x.state(3), y.state(3));
        boolean isLink = behind.kind.name.startsWith("jal");
        for (int r = 1; r < 32; r++) {
            int want = isLink && r == behind.d ? AT + 2 : y.get(r);
            CHECK.due(call + ": get(" + r + ")", x.get(r), want);
        }
        CHECK.due(call + ": PC", x.get(32), pcDue(behind, y));
        compareData(call, x, y);
    }

    private static int pcDue(Kinds.Parts behind, StepMachine y) {
        boolean mayJump = behind.kind.number >= 2 && behind.kind.number <= 9;
        boolean wentOn = y.get(32) == AT + 4 && !(mayJump && behind.i == 4);
        if (behind.kind.name.equals("jalr")) {
            return y.get(32);
        }
        if (mayJump && behind.i == 4) {
            boolean isTaken = behind.kind.number == 2 || y.get(behind.a) == 0 == behind.kind.name.equals("beq");
            return isTaken ? AT + 4 : AT + 2;
        }
        return wentOn ? AT + 2 : y.get(32);
    }

    private static void compareData(String call, StepMachine x, StepMachine y) {
        for (int at = DATA; at < DATA + 256; at++) {
            if (x.peek(at) != y.peek(at)) {
                CHECK.due(call + ": peek(" + at + ")", x.peek(at), y.peek(at));
            }
        }
    }
}
