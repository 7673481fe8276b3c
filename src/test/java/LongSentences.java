/** What the document says of the words of 32 bits: where their parts lie, and how far they go. */
final class LongSentences {

    private static final int AT = 8192;

    private final Sentences s;

    LongSentences(Sentences s) {
        this.s = s;
    }

    void all() {
        partsAreRegistersAndAnInt();
        longByItsLowestTwoBits();
        bitsAreNumberedFromZero();
        wordsOfNoKindAreIllegal();
        opcodes();
        placesOfRegisters();
        kindsOfU();
        jal();
        jalr();
        immediatesOfI();
        loads();
        branches();
        stores();
        shifts();
        pairs();
        wordsWithoutParts();
    }

    /** A machine with one word at 8192, and all rights to all of memory. */
    private static StepMachine machine(int w) {
        StepMachine x = new StepMachine();
        x.segment(0, 0, 131072, 7);
        Load.words(x, AT, w);
        x.set(32, AT);
        return x;
    }

    private static boolean isIllegal(int w) {
        StepMachine x = machine(w);
        return x.step() == 2 && x.state(1) == AT && x.get(32) == AT && x.state(3) == 0;
    }

    private void dueKind(int w, boolean isOne) {
        s.due(Integer.toHexString(w) + " is of no kind", isIllegal(w), !isOne);
    }

    private void partsAreRegistersAndAnInt() {
        s.says("Terms", "WORDS. PARTS are d, a, b (registers) and i (the immediate, an int).");
        StepMachine x = machine(0x80000093);
        x.step();
        s.due("addi 1, 0, -2048", x.get(1), -2048);
        StepMachine y = machine(0x01ff8fb3);
        y.set(31, 21);
        y.step();
        s.due("add 31, 31, 31", y.get(31), 42);
    }

    private void longByItsLowestTwoBits() {
        s.says("Terms", "A word is LONG when its lowest two bits are 11 (32 bits), else SHORT (16 bits).");
        int[][] rows = {{0x0040, 2}, {0x0001, 2}, {0x0086, 2}, {0x00000013, 4}};
        for (int[] row : rows) {
            StepMachine x = machine(row[0]);
            s.due(Integer.toHexString(row[0]) + ": step()", x.step(), 0);
            s.due(Integer.toHexString(row[0]) + ": get(32)", x.get(32), AT + row[1]);
        }
        StepMachine x = machine(0x0013);
        x.poke(AT + 2, 2, 0xf57fL << 48);
        s.due("the upper 16 bits are the word's, too", x.step(), 0);
        s.due("get(0)", x.get(0), 0);
        s.due("get(32)", x.get(32), AT + 4);
    }

    private void bitsAreNumberedFromZero() {
        s.says("Terms", "Bits are numbered from 0, the lowest; rows of bits are told from the highest on.");
        StepMachine x = machine(1 << 12 | 1 << 7 | 0x37);
        x.step();
        s.due("lui with bits 7 and 12", x.get(1), 4096);
        StepMachine y = machine(1 << 30 | 0x6f);
        y.step();
        s.due("jal with bit 30, the first of i10 .. i1", y.get(32), AT + 1024);
    }

    /** Each bit of each long kind that is no part, turned round by itself. */
    private void wordsOfNoKindAreIllegal() {
        s.says("Terms", "A word is of a kind when the bits that are no parts are as the kind has them and its parts"
                + " are such as may be; of no kind it is ILLEGAL.");
        for (Kinds.Kind kind : Kinds.ALL) {
            int w = Kinds.word(kind.name, 9, 10, 11, 4);
            int bits = kind.isShort() ? 16 : 32;
            for (int k = 2; k < bits; k++) {
                dueKind(w ^ 1 << k, Kinds.read(w ^ 1 << k) != null);
            }
        }
        for (int w : new int[] {0x0000, 0xffffffff, 0x0000001f, 0x0000007f}) {
            s.dueIllegal(w);
        }
    }

    private void opcodes() {
        s.says("Terms", "LONG kinds by number and name. Lowest seven bits (OPCODE) in hexadecimal, F3 bits 12 .. 14, F7 bits 25 .. 31");
        for (int opcode = 3; opcode < 128; opcode += 4) {
            boolean isOne = false;
            for (int known : new int[] {0x37, 0x17, 0x6f, 0x67, 0x13, 0x03, 0x63, 0x23, 0x33, 0x73}) {
                isOne |= known == opcode;
            }
            dueKind(opcode, isOne);
        }
        dueKind(2 << 12 | 0x03, true);
        dueKind(3 << 12 | 0x03, false);
        dueKind(32 << 25 | 0x33, true);
        dueKind(64 << 25 | 0x33, false);
    }

    private void placesOfRegisters() {
        s.says("Terms", "d lies in bits 7 .. 11, a in 15 .. 19, b in 20 .. 24.");
        for (int k = 0; k < 5; k++) {
            int r = 1 << k;
            int others = r == 1 ? 2 : 1;
            duePair(r, others, others);
            duePair(others, r, others);
            duePair(others, others, r);
        }
        duePair(31, 30, 29);
        duePair(29, 31, 30);
        duePair(30, 29, 31);
        duePair(7, 0, 31);
        duePair(7, 31, 0);
    }

    private void duePair(int d, int a, int b) {
        StepMachine x = machine(32 << 25 | b << 20 | a << 15 | d << 7 | 0x33);
        for (int r = 1; r < 32; r++) {
            x.set(r, r * r * 100);
        }
        s.due("sub: step()", x.step(), 0);
        for (int r = 1; r < 32; r++) {
            int want = r == d ? a * a * 100 - b * b * 100 : r * r * 100;
            s.due("sub " + d + ", " + a + ", " + b + ": get(" + r + ")", x.get(r), want);
        }
    }

    private void kindsOfU() {
        s.says("Terms", "U, i 0 .. 2^20 - 1 in bits 12 .. 31: 0 lui 37, 1 auipc 17.");
        int[][] rows = {{0, 0}, {1, 4096}, {0x7ffff, 0x7ffff000}, {0x80000, 0x80000000}, {0xfffff, -4096}};
        for (int[] row : rows) {
            for (int d : new int[] {1, 31}) {
                StepMachine x = machine(row[0] << 12 | d << 7 | 0x37);
                s.due("lui: step()", x.step(), 0);
                s.due("lui " + row[0], x.get(d), row[1]);
                StepMachine y = machine(row[0] << 12 | d << 7 | 0x17);
                s.due("auipc: step()", y.step(), 0);
                s.due("auipc " + row[0], y.get(d), AT + row[1]);
            }
        }
    }

    private void jal() {
        s.says("Terms", "J, i even, -2^20 .. 2^20 - 2: 2 jal 6f: bits 31 .. 12 are i20, i10 .. i1, i11, i19 .. i12. Both have d, i.");
        dueJump(0x80000000, -1048576);
        for (int k = 1; k <= 10; k++) {
            dueJump(1 << 20 + k, 1 << k);
        }
        dueJump(1 << 20, 1 << 11);
        for (int k = 12; k <= 19; k++) {
            dueJump(1 << k, 1 << k);
        }
        dueJump(0x7ffff000, 1048574);
        dueJump(0xfffff000, -2);
        dueJump(0, 0);
    }

    private void dueJump(int bits, int i) {
        StepMachine x = machine(bits | 31 << 7 | 0x6f);
        s.due("jal by " + i + ": step()", x.step(), 0);
        s.due("jal by " + i + ": get(32)", x.get(32), AT + i);
        s.due("jal by " + i + ": get(31)", x.get(31), AT + 4);
    }

    private void jalr() {
        s.says("Terms", "I, with d, a, i (-2048 .. 2047 in bits 20 .. 31): 3 jalr 67 F3 0;");
        for (int i : new int[] {-2048, -1024, -2, 0, 2, 1024, 2046}) {
            StepMachine x = machine(i << 20 | 31 << 15 | 1 << 7 | 0x67);
            x.set(31, 4000);
            s.due("jalr: step()", x.step(), 0);
            s.due("jalr by " + i + ": get(32)", x.get(32), 4000 + i);
            s.due("jalr: get(1)", x.get(1), AT + 4);
        }
        for (int f3 = 1; f3 < 8; f3++) {
            dueKind(f3 << 12 | 0x67, false);
        }
    }

    private void immediatesOfI() {
        s.says("Terms", "opcode 13: 18 addi F3 0, 19 slti 2, 20 sltiu 3, 21 xori 4, 22 ori 6, 23 andi 7;");
        dueImmediate(0, -2048, 100, -1948);
        dueImmediate(0, 2047, 100, 2147);
        dueImmediate(0, -1, 100, 99);
        dueImmediate(2, -2048, -2048, 0);
        dueImmediate(2, -2048, -2049, 1);
        dueImmediate(2, 2047, 2047, 0);
        dueImmediate(2, 2047, 2046, 1);
        dueImmediate(3, -2048, -2048, 0);
        dueImmediate(3, -2048, -2049, 1);
        dueImmediate(3, 2047, 2047, 0);
        dueImmediate(3, 2047, 2046, 1);
        dueImmediate(4, -2048, 0x0ff0, 0xfffff7f0);
        dueImmediate(4, 2047, 0x0ff0, 0x080f);
        dueImmediate(6, -2048, 0x0ff0, 0xfffffff0);
        dueImmediate(6, 2047, 0x0ff0, 0x0fff);
        dueImmediate(7, -2048, 0x10ff0, 0x10800);
        dueImmediate(7, 2047, 0x10ff0, 0x07f0);
    }

    private void dueImmediate(int f3, int i, int a, int want) {
        StepMachine x = machine(i << 20 | 30 << 15 | f3 << 12 | 31 << 7 | 0x13);
        x.set(30, a);
        String call = "opcode 13 F3 " + f3 + " of " + a + " and " + i;
        s.due(call + ": step()", x.step(), 0);
        s.due(call, x.get(31), want);
        s.due(call + ": get(30)", x.get(30), a);
        s.due(call + ": get(32)", x.get(32), AT + 4);
    }

    private void loads() {
        s.says("Terms", "opcode 03: 10 lb F3 0, 11 lh 1, 12 lw 2, 13 lbu 4, 14 lhu 5.");
        int[][] rows = {{0, 0xfffffff4}, {1, 0xffffe3f4}, {2, 0xc1d2e3f4}, {4, 0xf4}, {5, 0xe3f4}};
        for (int[] row : rows) {
            for (int i : new int[] {-2048, -1, 0, 1, 2047}) {
                StepMachine x = machine(i << 20 | 30 << 15 | row[0] << 12 | 31 << 7 | 0x03);
                x.poke(64, 4, 0xf4e3d2c1L << 32);
                x.set(30, 64 - i);
                s.due("opcode 03 F3 " + row[0] + ": step()", x.step(), 0);
                s.due("opcode 03 F3 " + row[0] + " with i " + i, x.get(31), row[1]);
            }
        }
        for (int f3 : new int[] {3, 6, 7}) {
            dueKind(f3 << 12 | 0x03, false);
        }
    }

    private void branches() {
        s.says("Terms", "B, with a, b, i (even, -4096 .. 4094), opcode 63: bits 31 .. 25 are i12, i10 .. i5,"
                + " bits 11 .. 7 are i4 .. i1, i11: 4 beq F3 0, 5 bne 1, 6 blt 4, 7 bge 5, 8 bltu 6, 9 bgeu 7.");
        dueBranch(0x80000000, -4096);
        for (int k = 5; k <= 10; k++) {
            dueBranch(1 << 20 + k, 1 << k);
        }
        for (int k = 1; k <= 4; k++) {
            dueBranch(1 << 7 + k, 1 << k);
        }
        dueBranch(1 << 7, 2048);
        dueBranch(0x7e000f80, 4094);
        dueBranch(0xfe000f80, -2);
        dueBranch(0, 0);
        dueKind(2 << 12 | 0x63, false);
        dueKind(3 << 12 | 0x63, false);
    }

    /** Register 30 holds less, with signs and without them, than register 31. */
    private void dueBranch(int bits, int i) {
        for (int f3 : new int[] {0, 1, 4, 5, 6, 7}) {
            boolean isTaken = f3 == 1 || f3 == 4 || f3 == 6;
            StepMachine x = machine(bits | 31 << 20 | 30 << 15 | f3 << 12 | 0x63);
            x.set(30, 5);
            x.set(31, 6);
            s.due("F3 " + f3 + " by " + i + ": step()", x.step(), 0);
            s.due("F3 " + f3 + " by " + i + ": get(32)", x.get(32), AT + (isTaken ? i : 4));
        }
    }

    private void stores() {
        s.says("Terms", "S, with a, b, i (-2048 .. 2047), opcode 23: bits 31 .. 25 are i11 .. i5, bits 11 .. 7 are i4 .. i0:"
                + " 15 sb F3 0, 16 sh 1, 17 sw 2.");
        dueStore(0x80000000, -2048);
        for (int k = 5; k <= 10; k++) {
            dueStore(1 << 20 + k, 1 << k);
        }
        for (int k = 0; k <= 4; k++) {
            dueStore(1 << 7 + k, 1 << k);
        }
        dueStore(0x7e000f80, 2047);
        dueStore(0xfe000f80, -1);
        for (int f3 = 3; f3 < 8; f3++) {
            dueKind(f3 << 12 | 0x23, false);
        }
    }

    private void dueStore(int bits, int i) {
        long[] want = {0xf4ffffffL, 0xf4e3ffffL, 0xf4e3d2c1L};
        for (int f3 = 0; f3 < 3; f3++) {
            StepMachine x = machine(bits | 31 << 20 | 30 << 15 | f3 << 12 | 0x23);
            x.poke(4096, 8, -1L);
            x.set(30, 4096 - i);
            x.set(31, 0xc1d2e3f4);
            s.due("F3 " + f3 + " with i " + i + ": step()", x.step(), 0);
            for (int k = 0; k < 8; k++) {
                long due = (want[f3] << 32 | 0xffffffffL) >>> 56 - 8 * k & 255;
                s.due("F3 " + f3 + " with i " + i + ": peek(" + (4096 + k) + ")", x.peek(4096 + k), due);
            }
        }
    }

    private void shifts() {
        s.says("Terms", "H, with d, a, i (0 .. 31 in bits 20 .. 24), opcode 13: 24 slli F3 1 F7 0, 25 srli 5 F7 0, 26 srai 5 F7 32.");
        dueShift(1, 0, 0, 0x80000001);
        dueShift(1, 0, 1, 2);
        dueShift(1, 0, 31, 0x80000000);
        dueShift(5, 0, 0, 0x80000001);
        dueShift(5, 0, 1, 0x40000000);
        dueShift(5, 0, 31, 1);
        dueShift(5, 32, 0, 0x80000001);
        dueShift(5, 32, 1, 0xc0000000);
        dueShift(5, 32, 31, -1);
        for (int f7 = 1; f7 < 128; f7++) {
            dueKind(f7 << 25 | 1 << 12 | 0x13, false);
            dueKind(f7 << 25 | 5 << 12 | 0x13, f7 == 32);
        }
    }

    private void dueShift(int f3, int f7, int i, int want) {
        StepMachine x = machine(f7 << 25 | i << 20 | 30 << 15 | f3 << 12 | 31 << 7 | 0x13);
        x.set(30, 0x80000001);
        String call = "F3 " + f3 + " F7 " + f7 + " by " + i;
        s.due(call + ": step()", x.step(), 0);
        s.due(call, x.get(31), want);
    }

    private void pairs() {
        s.says("Terms", "R, with d, a, b, opcode 33, F7 0 but where told: 27 add F3 0, 28 sub 0 (F7 32), 29 sll 1, 30 slt 2,"
                + " 31 sltu 3, 32 xor 4, 33 srl 5, 34 sra 5 (F7 32), 35 or 6, 36 and 7; F7 1: 37 mul 0, 38 mulh 1,"
                + " 39 mulhsu 2, 40 mulhu 3, 41 div 4, 42 divu 5, 43 rem 6, 44 remu 7.");
        duePairs(3, new int[] {-997, -8000, 1, 0, -997, 536870787, -997, 0, -1003, -125},
                new int[] {-3000, -1, -1, 2, -333, 1431655432, -1, 0});
        duePairs(-7, new int[] {-1007, 805306368, 1, 1, 993, 127, -7, -1000, -993, -1},
                new int[] {7000, 0, -1000, -1007, 142, 0, -6, -1000});
        for (int f7 = 2; f7 < 128; f7++) {
            for (int f3 = 0; f3 < 8; f3++) {
                dueKind(f7 << 25 | f3 << 12 | 0x33, f7 == 32 && (f3 == 0 || f3 == 5));
            }
        }
    }

    /** What comes of -1000 and b: with F7 0 by F3, then sub and sra; and with F7 1 by F3. */
    private void duePairs(int b, int[] plain, int[] products) {
        for (int f3 = 0; f3 < 8; f3++) {
            duePairOf(f3, 0, -1000, b, plain[f3]);
            duePairOf(f3, 1, -1000, b, products[f3]);
        }
        duePairOf(0, 32, -1000, b, plain[8]);
        duePairOf(5, 32, -1000, b, plain[9]);
    }

    private void duePairOf(int f3, int f7, int a, int b, int want) {
        StepMachine x = machine(f7 << 25 | 31 << 20 | 30 << 15 | f3 << 12 | 29 << 7 | 0x33);
        x.set(30, a);
        x.set(31, b);
        s.due("F3 " + f3 + " F7 " + f7 + ": step()", x.step(), 0);
        s.due("F3 " + f3 + " F7 " + f7 + " of " + a + " and " + b, x.get(29), want);
    }

    private void wordsWithoutParts() {
        s.says("Terms", "Without parts, these words alone: 45 fence 0ff0000f, 46 ecall 00000073, 47 ebreak 00100073.");
        int[][] rows = {{0x0ff0000f, 0}, {0x00000073, 7}, {0x00100073, 6}};
        for (int[] row : rows) {
            StepMachine x = machine(row[0]);
            s.due(Integer.toHexString(row[0]) + ": step()", x.step(), row[1]);
            for (int k = 7; k < 32; k++) {
                int other = row[0] ^ 1 << k;
                dueKind(other, other == 0x00000073 || other == 0x00100073);
            }
        }
    }
}
