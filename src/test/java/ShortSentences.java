/** What the document says of the words of 16 bits: each kind at its ends, and what is beside. */
final class ShortSentences {

    private static final int AT = 8192;
    private static final int SIGNED = 0x80000001;

    private final Sentences s;

    ShortSentences(Sentences s) {
        this.s = s;
    }

    void all() {
        shortRegisters();
        registersNotZero();
        standsForALongOne();
        addi4spn();
        lw();
        sw();
        nop();
        addi();
        jal();
        li();
        addi16sp();
        lui();
        srli();
        srai();
        andi();
        pairs();
        j();
        beqz();
        bnez();
        slli();
        lwsp();
        jr();
        mv();
        ebreak();
        jalr();
        add();
        swsp();
    }

    /** A machine with one word at 8192, all rights, and 256 * r in register r. */
    private static StepMachine machine(int w) {
        StepMachine x = new StepMachine();
        x.segment(0, 0, 131072, 7);
        Load.words(x, AT, w);
        for (int r = 1; r < 32; r++) {
            x.set(r, 256 * r);
        }
        x.set(32, AT);
        return x;
    }

    private static String name(int w) {
        return Integer.toHexString(w);
    }

    private void dueRegisters(String call, StepMachine x, int d, int want) {
        for (int r = 1; r < 32; r++) {
            s.due(call + ": get(" + r + ")", x.get(r), r == d ? want : 256 * r);
        }
    }

    /** That a word changes register d alone (none, for d 0), and goes on. */
    private void dueChange(int w, int d, int want) {
        StepMachine x = machine(w);
        s.due(name(w) + ": step()", x.step(), 0);
        dueRegisters(name(w), x, d, want);
        s.due(name(w) + ": get(32)", x.get(32), AT + 2);
    }

    /** What comes in register d from -2^31 + 1 there. */
    private void dueOfSigned(int w, int d, int want) {
        StepMachine x = machine(w);
        x.set(d, SIGNED);
        s.due(name(w) + ": step()", x.step(), 0);
        dueRegisters(name(w), x, d, want);
        s.due(name(w) + ": get(32)", x.get(32), AT + 2);
    }

    private void dueLoad(int w, int d, int from) {
        StepMachine x = machine(w);
        x.poke(from, 4, 0x8493a2b1L << 32);
        s.due(name(w) + ": step()", x.step(), 0);
        dueRegisters(name(w), x, d, 0xb1a29384);
        s.due(name(w) + ": get(32)", x.get(32), AT + 2);
    }

    private void dueStore(int w, int to, int want) {
        StepMachine x = machine(w);
        x.poke(to - 2, 8, -1L);
        s.due(name(w) + ": step()", x.step(), 0);
        for (int k = -2; k < 6; k++) {
            int due = k < 0 || k > 3 ? 255 : want >>> 8 * k & 255;
            s.due(name(w) + ": peek(" + (to + k) + ")", x.peek(to + k), due);
        }
        dueRegisters(name(w), x, 0, 0);
        s.due(name(w) + ": get(32)", x.get(32), AT + 2);
    }

    private void dueJump(int w, int to, int d) {
        StepMachine x = machine(w);
        s.due(name(w) + ": step()", x.step(), 0);
        s.due(name(w) + ": get(32)", x.get(32), to);
        dueRegisters(name(w), x, d, AT + 2);
    }

    /** From an odd address in register 31, i 0 comes to the even one below it, i 1 would not. */
    private void dueOddJump(int w) {
        StepMachine x = machine(w);
        x.set(31, 1001);
        s.due(name(w) + ": step()", x.step(), 0);
        s.due(name(w) + " to 1001: get(32)", x.get(32), 1000);
    }

    private void dueBranch(int w, int a, int i, boolean isTakenAtZero) {
        StepMachine x = machine(w);
        s.due(name(w) + ": step()", x.step(), 0);
        s.due(name(w) + ", not 0: get(32)", x.get(32), AT + (isTakenAtZero ? 2 : i));
        StepMachine y = machine(w);
        y.set(a, 0);
        s.due(name(w) + ": step()", y.step(), 0);
        s.due(name(w) + ", 0: get(32)", y.get(32), AT + (isTakenAtZero ? i : 2));
        dueRegisters(name(w), y, a, 0);
    }

    private void shortRegisters() {
        s.says("Terms", "Short registers are 8 .. 15.", "d', a', b' are short registers less 8, three bits;");
        for (int k = 0; k < 8; k++) {
            int r = 8 + k;
            int other = 15 - k;
            dueChange(0b000_0_0_0000_1_0_000_00 | k << 2, r, 516);
            dueLoad(0b010_000_000_00_000_00 | k << 7 | 7 - k << 2, other, 256 * r);
            dueStore(0b110_000_000_00_000_00 | k << 7 | 7 - k << 2, 256 * r, 256 * other);
        }
    }

    private void registersNotZero() {
        s.says("Terms", "d, a, b five bits, not 0 but where told;");
        s.dueIllegal(0b000_0_00000_00001_01);
        s.dueIllegal(0b010_0_00000_00001_01);
        s.dueIllegal(0b011_0_00000_00001_01);
        s.dueIllegal(0b000_0_00000_00001_10);
        s.dueIllegal(0b010_0_00000_00001_10);
        s.dueIllegal(0b100_0_00000_00000_10);
        s.dueIllegal(0b100_0_00000_00001_10);
        s.dueIllegal(0b100_1_00000_00001_10);
        dueStore(0b110_000000_00000_10, 512, 0);
    }

    private void standsForALongOne() {
        s.says("Terms", "SHORT kinds; the bits from 15 down to 0;",
                "behind = the long one for which it stands (parts not told there are its own; its i is i, where it has none 0):");
        dueChange(0b100_0_00001_11111_10, 1, 256 * 31);
        dueJump(0b100_0_11111_00000_10, 256 * 31, 0);
        dueOddJump(0b100_0_11111_00000_10);
        dueOddJump(0b100_1_11111_00000_10);
        for (int top : new int[] {0b001, 0b011, 0b100, 0b101, 0b111}) {
            s.dueIllegal(top << 13 | 0b00100);
        }
        for (int top : new int[] {0b001, 0b011, 0b101, 0b111}) {
            s.dueIllegal(top << 13 | 0b01_00001_00010);
        }
    }

    private void addi4spn() {
        s.says("Terms", "48 c.addi4spn 000 i5 i4 i9 .. i6 i2 i3 d' 00, i 4 .. 1020, a multiple of 4 = addi with a 2.");
        int[] places = {5, 4, 9, 8, 7, 6, 2, 3};
        for (int k = 0; k < 8; k++) {
            dueChange(1 << 12 - k, 8, 512 + (1 << places[k]));
        }
        dueChange(0b000_0_0_0000_1_0_111_00, 15, 512 + 4);
        dueChange(0b000_1_1_1111_1_1_111_00, 15, 512 + 1020);
        for (int d = 0; d < 8; d++) {
            s.dueIllegal(d << 2);
        }
    }

    private void lw() {
        s.says("Terms", "49 c.lw 010 i5 i4 i3 a' i2 i6 d' 00, i 0 .. 124, a multiple of 4 = lw.");
        dueLoad(0b010_0_0_0_000_0_0_111_00, 15, 2048);
        dueLoad(0b010_1_0_0_000_0_0_111_00, 15, 2048 + 32);
        dueLoad(0b010_0_1_0_000_0_0_111_00, 15, 2048 + 16);
        dueLoad(0b010_0_0_1_000_0_0_111_00, 15, 2048 + 8);
        dueLoad(0b010_0_0_0_000_1_0_111_00, 15, 2048 + 4);
        dueLoad(0b010_0_0_0_000_0_1_111_00, 15, 2048 + 64);
        dueLoad(0b010_1_1_1_111_1_1_000_00, 8, 3840 + 124);
    }

    private void sw() {
        s.says("Terms", "50 c.sw 110 i5 i4 i3 a' i2 i6 b' 00, likewise = sw.");
        dueStore(0b110_0_0_0_000_0_0_111_00, 2048, 3840);
        dueStore(0b110_1_0_0_000_0_0_111_00, 2048 + 32, 3840);
        dueStore(0b110_0_1_0_000_0_0_111_00, 2048 + 16, 3840);
        dueStore(0b110_0_0_1_000_0_0_111_00, 2048 + 8, 3840);
        dueStore(0b110_0_0_0_000_1_0_111_00, 2048 + 4, 3840);
        dueStore(0b110_0_0_0_000_0_1_111_00, 2048 + 64, 3840);
        dueStore(0b110_1_1_1_111_1_1_000_00, 3840 + 124, 2048);
    }

    private void nop() {
        s.says("Terms", "51 c.nop 0001 (hexadecimal) = addi with d 0, a 0.");
        dueChange(0x0001, 0, 0);
        for (int i = 1; i < 32; i++) {
            s.dueIllegal(i << 2 | 0x0001);
            s.dueIllegal(i << 2 | 0x1001);
        }
        s.dueIllegal(0x1001);
    }

    private void addi() {
        s.says("Terms", "52 c.addi 000 i5 d i4 .. i0 01, i -32 .. 31, not 0 = addi with a as d.");
        dueChange(0b000_1_00001_00000_01, 1, 256 - 32);
        dueChange(0b000_1_00001_11111_01, 1, 256 - 1);
        dueChange(0b000_0_00001_00001_01, 1, 256 + 1);
        dueChange(0b000_0_11111_11111_01, 31, 256 * 31 + 31);
        dueChange(0b000_0_00010_10000_01, 2, 512 + 16);
        for (int d = 1; d < 32; d++) {
            s.dueIllegal(d << 7 | 0x0001);
        }
    }

    /** The bits 12 .. 2 of c.jal and c.j, each by itself, and at the ends. */
    private void dueJumps(int w, int d) {
        int[] places = {11, 4, 9, 8, 10, 6, 7, 3, 2, 1, 5};
        for (int k = 0; k < 11; k++) {
            int i = k == 0 ? -2048 : 1 << places[k];
            dueJump(w | 1 << 12 - k, AT + i, d);
        }
        dueJump(w, AT, d);
        dueJump(w | 0b0_11111_11111_00, AT + 2046, d);
        dueJump(w | 0b1_11111_11111_00, AT - 2, d);
    }

    private void jal() {
        s.says("Terms", "53 c.jal 001 i11 i4 i9 i8 i10 i6 i7 i3 i2 i1 i5 01, i even, -2048 .. 2046 = jal with d 1.");
        dueJumps(0b001_00000000000_01, 1);
    }

    private void li() {
        s.says("Terms", "54 c.li 010 i5 d i4 .. i0 01, i -32 .. 31 = addi with a 0.");
        dueChange(0b010_1_00001_00000_01, 1, -32);
        dueChange(0b010_1_00010_11111_01, 2, -1);
        dueChange(0b010_0_00001_00000_01, 1, 0);
        dueChange(0b010_0_11111_11111_01, 31, 31);
        for (int i = 0; i < 32; i++) {
            s.dueIllegal(0b010_0_00000_00000_01 | i << 2);
            s.dueIllegal(0b010_1_00000_00000_01 | i << 2);
        }
    }

    private void addi16sp() {
        s.says("Terms", "55 c.addi16sp 011 i9 00010 i4 i6 i8 i7 i5 01, i a multiple of 16, -512 .. 496, not 0 = addi with d 2, a 2.");
        dueChange(0b011_1_00010_00000_01, 2, 512 - 512);
        dueChange(0b011_0_00010_10000_01, 2, 512 + 16);
        dueChange(0b011_0_00010_01000_01, 2, 512 + 64);
        dueChange(0b011_0_00010_00100_01, 2, 512 + 256);
        dueChange(0b011_0_00010_00010_01, 2, 512 + 128);
        dueChange(0b011_0_00010_00001_01, 2, 512 + 32);
        dueChange(0b011_0_00010_11111_01, 2, 512 + 496);
        dueChange(0b011_1_00010_11111_01, 2, 512 - 16);
        s.dueIllegal(0b011_0_00010_00000_01);
    }

    private void lui() {
        s.says("Terms", "56 c.lui 011 i5 d i4 .. i0 01, d not 2 either, its six bits not 0;"
                + " i is these with sign, modulo 2^20 (1 .. 31, 2^20 - 32 .. 2^20 - 1) = lui.");
        dueChange(0b011_0_00001_00001_01, 1, 4096);
        dueChange(0b011_0_11111_11111_01, 31, 31 * 4096);
        dueChange(0b011_1_00001_00000_01, 1, -32 * 4096);
        dueChange(0b011_1_00011_11111_01, 3, -4096);
        for (int d = 0; d < 32; d++) {
            s.dueIllegal(0b011_0_00000_00000_01 | d << 7);
        }
        for (int i = 0; i < 32; i++) {
            s.dueIllegal(0b011_0_00000_00000_01 | i << 2);
            s.dueIllegal(0b011_1_00000_00000_01 | i << 2);
        }
    }

    /** What a shift of short registers refuses: i 0, and bit 12. */
    private void dueIllegalShifts(int w) {
        for (int d = 0; d < 8; d++) {
            s.dueIllegal(w | d << 7);
            s.dueIllegal(w | d << 7 | 0b1_00_000_00000_00);
            s.dueIllegal(w | d << 7 | 0b1_00_000_00001_00);
            s.dueIllegal(w | d << 7 | 0b1_00_000_11111_00);
        }
    }

    private void srli() {
        s.says("Terms", "57 c.srli 100 0 00 d' i4 .. i0 01, i 1 .. 31 = srli with a as d.");
        dueOfSigned(0b100_0_00_000_00001_01, 8, 0x40000000);
        dueOfSigned(0b100_0_00_111_11111_01, 15, 1);
        dueOfSigned(0b100_0_00_111_10000_01, 15, 0x8000);
        dueIllegalShifts(0b100_0_00_000_00000_01);
    }

    private void srai() {
        s.says("Terms", "58 c.srai 100 0 01, likewise = srai.");
        dueOfSigned(0b100_0_01_000_00001_01, 8, 0xc0000000);
        dueOfSigned(0b100_0_01_111_11111_01, 15, -1);
        dueOfSigned(0b100_0_01_111_10000_01, 15, 0xffff8000);
        dueIllegalShifts(0b100_0_01_000_00000_01);
    }

    private void andi() {
        s.says("Terms", "59 c.andi 100 i5 10 d' i4 .. i0 01, i -32 .. 31 = andi with a as d.");
        dueOfSigned(0b100_1_10_000_00000_01, 8, 0x80000000);
        dueOfSigned(0b100_1_10_111_11111_01, 15, SIGNED);
        dueOfSigned(0b100_0_10_111_11111_01, 15, 1);
        dueOfSigned(0b100_0_10_000_00000_01, 8, 0);
    }

    private void pairs() {
        s.says("Terms", "60 c.sub 100 0 11 d' 00 b' 01 = sub, 61 c.xor 01 = xor, 62 c.or 10 = or, 63 c.and 11 = and"
                + " (the two bits ahead of b'), each with a as d.");
        int[] want = {2048 - 2304, 2048 ^ 2304, 2048 | 2304, 2048 & 2304};
        for (int two = 0; two < 4; two++) {
            dueChange(0b100_0_11_000_00_001_01 | two << 5, 8, want[two]);
            s.dueIllegal(0b100_1_11_000_00_001_01 | two << 5);
        }
        dueChange(0b100_0_11_111_00_000_01, 15, 3840 - 2048);
        dueChange(0b100_0_11_000_00_111_01, 8, 2048 - 3840);
        dueChange(0b100_0_11_111_00_111_01, 15, 0);
    }

    private void j() {
        s.says("Terms", "64 c.j 101, as c.jal = jal with d 0.");
        dueJumps(0b101_00000000000_01, 0);
    }

    /** The bits of the immediate of c.beqz and c.bnez, each by itself, and at the ends. */
    private void dueBranches(int w, boolean isTakenAtZero) {
        int[][] places = {{12, 8}, {11, 4}, {10, 3}, {6, 7}, {5, 6}, {4, 2}, {3, 1}, {2, 5}};
        for (int[] place : places) {
            int i = place[1] == 8 ? -256 : 1 << place[1];
            dueBranch(w | 1 << place[0], 8, i, isTakenAtZero);
        }
        dueBranch(w, 8, 0, isTakenAtZero);
        dueBranch(w | 0b000_0_11_111_11111_00, 15, 254, isTakenAtZero);
        dueBranch(w | 0b000_1_11_111_11111_00, 15, -2, isTakenAtZero);
    }

    private void beqz() {
        s.says("Terms", "65 c.beqz 110 i8 i4 i3 a' i7 i6 i2 i1 i5 01, i even, -256 .. 254 = beq with b 0.");
        dueBranches(0b110_000_000_00000_01, true);
    }

    private void bnez() {
        s.says("Terms", "66 c.bnez 111, likewise = bne.");
        dueBranches(0b111_000_000_00000_01, false);
    }

    private void slli() {
        s.says("Terms", "67 c.slli 000 0 d i4 .. i0 10, i 1 .. 31 = slli with a as d.");
        dueOfSigned(0b000_0_00001_00001_10, 1, 2);
        dueOfSigned(0b000_0_11111_11111_10, 31, 0x80000000);
        dueOfSigned(0b000_0_00010_10000_10, 2, 0x10000);
        for (int k = 0; k < 32; k++) {
            s.dueIllegal(0b000_0_00000_00000_10 | k << 7);
            s.dueIllegal(0b000_0_00000_00000_10 | k << 2);
            s.dueIllegal(0b000_1_00001_00000_10 | k << 2);
        }
    }

    private void lwsp() {
        s.says("Terms", "68 c.lwsp 010 i5 d i4 i3 i2 i7 i6 10, i 0 .. 252, a multiple of 4 = lw with a 2.");
        int[][] places = {{12, 5}, {6, 4}, {5, 3}, {4, 2}, {3, 7}, {2, 6}};
        for (int[] place : places) {
            dueLoad(0b010_0_00001_00000_10 | 1 << place[0], 1, 512 + (1 << place[1]));
        }
        dueLoad(0b010_0_00010_00000_10, 2, 512);
        dueLoad(0b010_1_11111_11111_10, 31, 512 + 252);
        for (int i = 0; i < 32; i++) {
            s.dueIllegal(0b010_0_00000_00000_10 | i << 2);
            s.dueIllegal(0b010_1_00000_00000_10 | i << 2);
        }
    }

    private void jr() {
        s.says("Terms", "69 c.jr 100 0 a 00000 10 = jalr with d 0.");
        dueJump(0b100_0_00001_00000_10, 256, 0);
        dueJump(0b100_0_11111_00000_10, 256 * 31, 0);
        dueOddJump(0b100_0_11111_00000_10);
        s.dueIllegal(0b100_0_00000_00000_10);
    }

    private void mv() {
        s.says("Terms", "70 c.mv 100 0 d b 10 = add with a 0.");
        dueChange(0b100_0_00001_11111_10, 1, 256 * 31);
        dueChange(0b100_0_11111_00001_10, 31, 256);
        for (int b = 1; b < 32; b++) {
            s.dueIllegal(0b100_0_00000_00000_10 | b << 2);
        }
    }

    private void ebreak() {
        s.says("Terms", "71 c.ebreak 9002 = ebreak.");
        StepMachine x = machine(0x9002);
        s.due("step()", x.step(), 6);
        s.dueState("9002", x, 6, AT, AT, 1);
        dueRegisters("9002", x, 0, 0);
    }

    private void jalr() {
        s.says("Terms", "72 c.jalr 100 1 a 00000 10 = jalr with d 1.");
        dueJump(0b100_1_00001_00000_10, 256, 1);
        dueJump(0b100_1_11111_00000_10, 256 * 31, 1);
        dueOddJump(0b100_1_11111_00000_10);
    }

    private void add() {
        s.says("Terms", "73 c.add 100 1 d b 10 = add with a as d.");
        dueChange(0b100_1_00001_11111_10, 1, 256 * 32);
        dueChange(0b100_1_11111_00001_10, 31, 256 * 32);
        dueChange(0b100_1_00011_00011_10, 3, 256 * 6);
        for (int b = 1; b < 32; b++) {
            s.dueIllegal(0b100_1_00000_00000_10 | b << 2);
        }
    }

    private void swsp() {
        s.says("Terms", "74 c.swsp 110 i5 .. i2 i7 i6 b 10, i as of c.lwsp, b also 0 = sw with a 2.");
        int[][] places = {{12, 5}, {11, 4}, {10, 3}, {9, 2}, {8, 7}, {7, 6}};
        for (int[] place : places) {
            dueStore(0b110_000000_00001_10 | 1 << place[0], 512 + (1 << place[1]), 256);
        }
        dueStore(0b110_000000_00000_10, 512, 0);
        dueStore(0b110_111111_00000_10, 512 + 252, 0);
        dueStore(0b110_111111_11111_10, 512 + 252, 256 * 31);
    }
}
