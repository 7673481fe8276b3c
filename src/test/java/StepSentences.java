/** What the document says of a step: what each kind does, with numbers at their ends. */
final class StepSentences {

    private static final int MIN = Integer.MIN_VALUE;
    private static final int MAX = Integer.MAX_VALUE;
    private static final int SIZE = 131072;

    private final Sentences s;

    StepSentences(Sentences s) {
        this.s = s;
    }

    void all() {
        numbersAheadOfIt();
        shortWordsHaveTwoBytes();
        firstWhatFails();
        luiWraps();
        auipcWraps();
        jalLinksAndJumps();
        jalrDropsBitZero();
        equality();
        orderWithSigns();
        orderWithoutSigns();
        addressesWrap();
        loads();
        stores();
        addiWraps();
        below();
        bitByBit();
        movedByI();
        addAndSubWrap();
        movedByFiveBits();
        pairsAsAbove();
        products();
        quotients();
        divisionByZero();
        leastByMinusOne();
        fence();
        ecallAndEbreak();
        otherwiseOn();
        jumps();
        jumpsWithMarking();
    }

    private static StepMachine machine(String name, int i, int a, int b) {
        StepMachine x = Load.machine(Kinds.word(name, 7, 5, 6, i));
        x.set(5, a);
        x.set(6, b);
        return x;
    }

    private void dueResult(String name, int i, int a, int b, int want) {
        StepMachine x = machine(name, i, a, b);
        String call = name + " of " + a + ", " + b + " and " + i;
        s.dueGoesOn(call, x, 4);
        s.due(call + ": d", x.get(7), want);
        s.due(call + ": a", x.get(5), a);
        s.due(call + ": b", x.get(6), b);
    }

    private void duePair(String name, int a, int b, int want) {
        dueResult(name, 0, a, b, want);
    }

    private void dueImmediate(String name, int a, int i, int want) {
        dueResult(name, i, a, 0x55, want);
    }

    private void dueTarget(String call, StepMachine x, int target) {
        s.due(call + ": step()", x.step(), 0);
        s.dueState(call, x, 0, 0, target, 1);
    }

    private void numbersAheadOfIt() {
        s.says("Terms", "A STEP, at PC, with the numbers that registers have ahead of it, and W, the bytes of the word:");
        StepMachine x = Load.machine(Kinds.word("add", 9, 9, 9, 0), Kinds.word("sub", 9, 9, 9, 0));
        x.set(9, 21);
        x.step();
        s.due("add 9, 9, 9", x.get(9), 42);
        x.step();
        s.due("sub 9, 9, 9", x.get(9), 0);
        StepMachine y = Load.machine(Kinds.word("lw", 9, 9, 0, 0), Load.nop());
        y.set(9, 512);
        y.poke(512, 1, 0x55L << 56);
        y.step();
        s.due("lw 9, 0(9)", y.get(9), 0x55);
        StepMachine z = Load.machine(Kinds.word("sw", 0, 9, 9, 0), Kinds.word("sw", 0, 0, 5, 8), 0);
        z.set(9, 512);
        z.set(5, Load.li(6, 77));
        z.step();
        s.due("sw 9, 0(9): peek(513)", z.peek(513), 2);
        z.run(2);
        s.due("a word that the step before it stored", z.get(6), 77);
    }

    private void shortWordsHaveTwoBytes() {
        s.says("Terms", "a SHORT word works as the long one for which it stands, but with W 2.");
        StepMachine x = Load.machine(Kinds.word("c.jal", 0, 0, 0, 64));
        dueTarget("c.jal", x, 64);
        s.due("c.jal: get(1)", x.get(1), 2);
        StepMachine y = Load.machine(Kinds.word("c.jalr", 0, 5, 0, 0));
        y.set(5, 64);
        dueTarget("c.jalr", y, 64);
        s.due("c.jalr: get(1)", y.get(1), 2);
        StepMachine z = Load.machine(Kinds.word("c.bnez", 0, 8, 0, 64));
        dueTarget("c.bnez, not taken", z, 2);
    }

    private void firstWhatFails() {
        s.says("Terms", "First what FAILS (see STATES).");
        StepMachine x = Load.machine(Kinds.word("lw", 5, 5, 0, 0));
        x.set(5, 4094);
        s.due("lw of what lies across: step()", x.step(), 3);
        s.due("get(5)", x.get(5), 4094);
        StepMachine y = Load.machine(Kinds.word("sw", 0, 5, 6, 0));
        y.segment(0, 0, 4094, 7);
        y.set(5, 4092);
        y.set(6, -1);
        s.due("sw with two bytes without the right: step()", y.step(), 4);
        s.due("peek(4092)", y.peek(4092), 0);
        StepMachine z = Load.machine(Kinds.word("lw", 0, 0, 0, 2));
        s.due("lw into register 0: step()", z.step(), 3);
    }

    private void luiWraps() {
        s.says("Terms", "lui: d becomes 4096 * i;", "(both wrapping)");
        dueImmediate("lui", 0, 0, 0);
        dueImmediate("lui", 0, 0x7ffff, 0x7ffff000);
        dueImmediate("lui", 0, 0x80000, MIN);
        dueImmediate("lui", 0, 0xfffff, -4096);
    }

    private void auipcWraps() {
        s.says("Terms", "auipc: PC + 4096 * i (both wrapping).");
        dueImmediate("auipc", 0, 0xfffff, -4096);
        StepMachine x = new StepMachine();
        x.segment(0, SIZE - 4, 4, 4);
        Load.words(x, SIZE - 4, Kinds.word("auipc", 7, 0, 0, 0xfffff));
        x.set(32, SIZE - 4);
        s.due("auipc at the end of memory: step()", x.step(), 0);
        s.due("auipc at the end of memory", x.get(7), SIZE - 4 - 4096);
        StepMachine y = Load.machine(Load.nop(), Kinds.word("auipc", 7, 0, 0, 0x80000));
        y.run(2);
        s.due("auipc at 2", y.get(7), MIN + 2);
    }

    private void jalLinksAndJumps() {
        s.says("Terms", "jal: d becomes PC + W, it JUMPS to PC + i.");
        for (int i : new int[] {-1048576, -2, 0, 2, 4, 1048574}) {
            StepMachine x = Load.machine(Load.jal(31, i));
            dueTarget("jal by " + i, x, i);
            s.due("jal by " + i + ": d", x.get(31), 4);
        }
        StepMachine x = new StepMachine();
        x.segment(0, SIZE - 4, 4, 4);
        Load.words(x, SIZE - 4, Load.jal(1, -8));
        x.set(32, SIZE - 4);
        dueTarget("jal at the end of memory", x, SIZE - 12);
        s.due("its d", x.get(1), SIZE);
    }

    private void jalrDropsBitZero() {
        s.says("Terms", "jalr: d becomes PC + W, it JUMPS to a + i less its bit 0 (a as it was).");
        int[][] rows = {{1000, 0, 1000}, {1001, 0, 1000}, {1000, 1, 1000}, {1001, 1, 1002}, {1000, -1, 998}, {0, -1, -2},
            {0, -2048, -2048}, {-1, 1, 0}, {-1, 0, -2}, {MAX, 1, MIN}, {MAX, 0, MAX - 1}, {MIN, -1, MAX - 1}, {-2047, 2047, 0}};
        for (int[] row : rows) {
            StepMachine x = Load.machine(Kinds.word("jalr", 5, 5, 0, row[1]));
            x.set(5, row[0]);
            dueTarget("jalr to " + row[0] + " and " + row[1], x, row[2]);
            s.due("jalr: d, which is a", x.get(5), 4);
        }
    }

    /** That a branch is taken when a and b are as told, and not otherwise. */
    private void dueBranch(String name, int a, int b, boolean isTaken) {
        dueTarget(name + " of " + a + " and " + b, machine(name, 64, a, b), isTaken ? 64 : 4);
        dueTarget(name + " of " + a + " and " + b, machine(name, -64, a, b), isTaken ? -64 : 4);
    }

    private void equality() {
        s.says("Terms", "beq a is b, bne it isn't,");
        int[][] rows = {{0, 0}, {-1, -1}, {MIN, MIN}, {0, 1}, {MIN, MAX}, {-1, 0}, {0x10000, 0}, {MIN, 0}};
        for (int[] row : rows) {
            dueBranch("beq", row[0], row[1], row[0] == row[1]);
            dueBranch("bne", row[0], row[1], row[0] != row[1]);
        }
    }

    private void orderWithSigns() {
        s.says("Terms", "blt a is below b, bge it isn't,");
        int[][] below = {{-1, 0}, {0, 1}, {MIN, MAX}, {MIN, MIN + 1}, {MAX - 1, MAX}, {-2, -1}, {MIN, 0}};
        for (int[] row : below) {
            dueBranch("blt", row[0], row[1], true);
            dueBranch("bge", row[0], row[1], false);
            dueBranch("blt", row[1], row[0], false);
            dueBranch("bge", row[1], row[0], true);
            dueBranch("blt", row[0], row[0], false);
            dueBranch("bge", row[0], row[0], true);
        }
    }

    private void orderWithoutSigns() {
        s.says("Terms", "bltu and bgeu likewise without signs: if so it JUMPS to PC + i.");
        int[][] below = {{0, -1}, {0, 1}, {MAX, MIN}, {MIN, MIN + 1}, {-2, -1}, {MAX, -1}, {0, MIN}};
        for (int[] row : below) {
            dueBranch("bltu", row[0], row[1], true);
            dueBranch("bgeu", row[0], row[1], false);
            dueBranch("bltu", row[1], row[0], false);
            dueBranch("bgeu", row[1], row[0], true);
            dueBranch("bltu", row[0], row[0], false);
            dueBranch("bgeu", row[0], row[0], true);
        }
    }

    private void addressesWrap() {
        s.says("Terms", "Loads: the address is a + i (wrapping, without a sign);");
        int[][] rows = {{-4, 516}, {-1535, 2047}, {512, 0}, {2560, -2048}, {-1, 513}, {513, -1}};
        for (int[] row : rows) {
            StepMachine x = machine("lw", row[1], row[0], 0);
            x.poke(512, 4, 0x01020304L << 32);
            s.due("lw of " + row[0] + " and " + row[1] + ": step()", x.step(), 0);
            s.due("lw of " + row[0] + " and " + row[1], x.get(7), 0x04030201);
        }
        int[][] beyond = {{0, -4}, {MAX, 1}, {MAX - 3, 0}, {MIN, -4}, {-4, 0}, {SIZE, 0}, {SIZE - 4, 4}};
        for (int[] row : beyond) {
            StepMachine x = machine("lw", row[1], row[0], 0);
            x.segment(0, 0, SIZE, 7);
            s.due("lw of " + row[0] + " and " + row[1] + ": step()", x.step(), 3);
            s.due("its culprit", x.state(1), row[0] + row[1]);
        }
    }

    private void dueLoad(String name, int at, long eight, int want) {
        StepMachine x = machine(name, -1, at + 1, 0);
        x.poke(512, 8, eight);
        s.dueGoesOn(name, x, 4);
        s.due(name + " at " + at, x.get(7), want);
    }

    private void loads() {
        s.says("Terms", "lb, lh, lw bytes with sign, lbu, lhu without one: 1, 2, 4.");
        dueLoad("lb", 512, 0x80ffffffffffffffL, -128);
        dueLoad("lb", 513, 0xff7fffffffffffffL, 127);
        dueLoad("lb", 519, 0x0000000000000080L, -128);
        dueLoad("lbu", 512, 0x80ffffffffffffffL, 128);
        dueLoad("lbu", 519, 0x00000000000000ffL, 255);
        dueLoad("lh", 512, 0x0080ffffffffffffL, -32768);
        dueLoad("lh", 514, 0x0000ff7f00000000L, 32767);
        dueLoad("lh", 518, 0x000000000000ffffL, -1);
        dueLoad("lhu", 512, 0x0080ffffffffffffL, 32768);
        dueLoad("lhu", 518, 0x000000000000ffffL, 65535);
        dueLoad("lw", 512, 0x00000080ffffffffL, MIN);
        dueLoad("lw", 516, 0x00000000ffffff7fL, MAX);
    }

    private void stores() {
        s.says("Terms", "Stores: sb, sh, sw the lowest bits of b there.");
        dueStore("sb", 512, 0x84ffffffffffffffL);
        dueStore("sb", 515, 0xffffff84ffffffffL);
        dueStore("sb", 519, 0xffffffffffffff84L);
        dueStore("sh", 512, 0x8493ffffffffffffL);
        dueStore("sh", 518, 0xffffffffffff8493L);
        dueStore("sw", 512, 0x8493a2b1ffffffffL);
        dueStore("sw", 516, 0xffffffff8493a2b1L);
    }

    private void dueStore(String name, int at, long want) {
        StepMachine x = machine(name, 8, at - 8, 0xb1a29384);
        x.poke(512, 8, -1L);
        s.dueGoesOn(name, x, 4);
        for (int k = 0; k < 8; k++) {
            s.due(name + " at " + at + ": peek(" + (512 + k) + ")", x.peek(512 + k), want >>> 56 - 8 * k & 255);
        }
        s.due(name + ": peek(511)", x.peek(511), 0);
        s.due(name + ": peek(520)", x.peek(520), 0);
    }

    private void addiWraps() {
        s.says("Terms", "addi a + i;");
        dueImmediate("addi", MAX, 1, MIN);
        dueImmediate("addi", MAX, 2047, MIN + 2046);
        dueImmediate("addi", MIN, -1, MAX);
        dueImmediate("addi", MIN, -2048, MAX - 2047);
        dueImmediate("addi", 5, 0, 5);
    }

    private void below() {
        s.says("Terms", "slti, sltiu 1 if a is below i, without signs (that of i, too), else 0;");
        dueImmediate("slti", -1, 0, 1);
        dueImmediate("slti", 0, 0, 0);
        dueImmediate("slti", 1, 0, 0);
        dueImmediate("slti", MIN, -2048, 1);
        dueImmediate("slti", -2048, -2048, 0);
        dueImmediate("slti", MAX, 2047, 0);
        dueImmediate("slti", 0, -1, 0);
        dueImmediate("sltiu", 0, 0, 0);
        dueImmediate("sltiu", 0, 1, 1);
        dueImmediate("sltiu", -1, 0, 0);
        dueImmediate("sltiu", 0, -1, 1);
        dueImmediate("sltiu", 4096, -1, 1);
        dueImmediate("sltiu", -2, -1, 1);
        dueImmediate("sltiu", -1, -1, 0);
        dueImmediate("sltiu", MAX, -2048, 1);
        dueImmediate("sltiu", MIN, -2048, 1);
        dueImmediate("sltiu", -2048, -2048, 0);
        dueImmediate("sltiu", MIN, 2047, 0);
    }

    private void bitByBit() {
        s.says("Terms", "xori, ori, andi bit by bit;");
        dueImmediate("xori", 0x0f0f0f0f, -1, 0xf0f0f0f0);
        dueImmediate("xori", 0x0f0f0f0f, 2047, 0x0f0f08f0);
        dueImmediate("xori", MIN, -2048, 0x7ffff800);
        dueImmediate("ori", 0x0f0f0f0f, -2048, 0xffffff0f);
        dueImmediate("ori", 0x0f0f0f0f, 2047, 0x0f0f0fff);
        dueImmediate("ori", MIN, 0, MIN);
        dueImmediate("andi", 0x0f0f0f0f, -2048, 0x0f0f0800);
        dueImmediate("andi", 0x0f0f0f0f, 2047, 0x0000070f);
        dueImmediate("andi", -1, 0, 0);
    }

    private void movedByI() {
        s.says("Terms", "slli, srli, srai a moved by i up, down, down with its sign.");
        dueImmediate("slli", 0x80000003, 0, 0x80000003);
        dueImmediate("slli", 0x80000003, 1, 6);
        dueImmediate("slli", 0x80000003, 31, MIN);
        dueImmediate("srli", 0x80000003, 0, 0x80000003);
        dueImmediate("srli", 0x80000003, 1, 0x40000001);
        dueImmediate("srli", 0x80000003, 31, 1);
        dueImmediate("srai", 0x80000003, 0, 0x80000003);
        dueImmediate("srai", 0x80000003, 1, 0xc0000001);
        dueImmediate("srai", 0x80000003, 31, -1);
        dueImmediate("srai", MAX, 31, 0);
    }

    private void addAndSubWrap() {
        s.says("Terms", "add, sub wrapping;");
        duePair("add", MAX, 1, MIN);
        duePair("add", MIN, -1, MAX);
        duePair("add", MIN, MIN, 0);
        duePair("add", -1, 1, 0);
        duePair("sub", MIN, 1, MAX);
        duePair("sub", MAX, -1, MIN);
        duePair("sub", 0, MIN, MIN);
        duePair("sub", 0, 1, -1);
    }

    private void movedByFiveBits() {
        s.says("Terms", "sll, srl, sra a moved by the lowest five bits of b;");
        int[][] rows = {
            {0, 0x80000003, 0x80000003, 0x80000003}, {1, 6, 0x40000001, 0xc0000001}, {31, MIN, 1, -1},
            {32, 0x80000003, 0x80000003, 0x80000003}, {33, 6, 0x40000001, 0xc0000001}, {-1, MIN, 1, -1},
            {MIN, 0x80000003, 0x80000003, 0x80000003}, {MAX, MIN, 1, -1}, {-32, 0x80000003, 0x80000003, 0x80000003},
        };
        for (int[] row : rows) {
            duePair("sll", 0x80000003, row[0], row[1]);
            duePair("srl", 0x80000003, row[0], row[2]);
            duePair("sra", 0x80000003, row[0], row[3]);
        }
    }

    private void pairsAsAbove() {
        s.says("Terms", "slt, sltu as above; xor, or, and.");
        int[][] rows = {{-1, 0, 1, 0}, {0, -1, 0, 1}, {MIN, MAX, 1, 0}, {MAX, MIN, 0, 1}, {7, 7, 0, 0}, {-2, -1, 1, 1}};
        for (int[] row : rows) {
            duePair("slt", row[0], row[1], row[2]);
            duePair("sltu", row[0], row[1], row[3]);
        }
        duePair("xor", 0x8000000c, 0x0000000a, 0x80000006);
        duePair("or", 0x8000000c, 0x0000000a, 0x8000000e);
        duePair("and", 0x8000000c, 0x8000000a, 0x80000008);
    }

    private void products() {
        s.says("Terms", "mul the lowest 32 bits of the product; mulh, mulhu, mulhsu the highest 32 bits of the one with signs,"
                + " without, with a's alone.");
        int[][] rows = {
            {-1, -1, 1, 0, -2, -1}, {MIN, MIN, 0, 0x40000000, 0x40000000, 0xc0000000}, {MAX, MAX, 1, 0x3fffffff, 0x3fffffff, 0x3fffffff},
            {MIN, -1, MIN, 0, MAX, MIN}, {-1, MIN, MIN, 0, MAX, -1}, {MAX, -1, MIN + 1, -1, MAX - 1, MAX - 1},
            {-1, MAX, MIN + 1, -1, MAX - 1, -1}, {-1, 1, -1, -1, 0, -1}, {1, -1, -1, -1, 0, 0}, {0, -1, 0, 0, 0, 0},
            {0x10000, 0x10000, 0, 1, 1, 1},
        };
        for (int[] row : rows) {
            duePair("mul", row[0], row[1], row[2]);
            duePair("mulh", row[0], row[1], row[3]);
            duePair("mulhu", row[0], row[1], row[4]);
            duePair("mulhsu", row[0], row[1], row[5]);
        }
    }

    private void dueQuotients(int a, int b, int[] want) {
        duePair("div", a, b, want[0]);
        duePair("rem", a, b, want[1]);
        duePair("divu", a, b, want[2]);
        duePair("remu", a, b, want[3]);
    }

    private void quotients() {
        s.says("Terms", "div cut towards 0, rem with the sign of a, divu, remu without signs;");
        dueQuotients(7, 2, new int[] {3, 1, 3, 1});
        dueQuotients(-7, 2, new int[] {-3, -1, 0x7ffffffc, 1});
        dueQuotients(7, -2, new int[] {-3, 1, 0, 7});
        dueQuotients(-7, -2, new int[] {3, -1, 0, -7});
        dueQuotients(-1, 1, new int[] {-1, 0, -1, 0});
        dueQuotients(MIN, 1, new int[] {MIN, 0, MIN, 0});
        dueQuotients(MIN, 2, new int[] {MIN / 2, 0, 0x40000000, 0});
        dueQuotients(MAX, MIN, new int[] {0, MAX, 0, MAX});
        dueQuotients(MIN, MIN, new int[] {1, 0, 1, 0});
        dueQuotients(-1, MIN, new int[] {0, -1, 1, MAX});
    }

    private void divisionByZero() {
        s.says("Terms", "by 0 the quotient is -1 (2^32 - 1), the rest a;");
        for (int a : new int[] {0, 1, -1, 7, -7, MIN, MAX}) {
            dueQuotients(a, 0, new int[] {-1, a, -1, a});
        }
    }

    private void leastByMinusOne() {
        s.says("Terms", "-2^31 by -1 is -2^31, rest 0.");
        dueQuotients(MIN, -1, new int[] {MIN, 0, 0, MIN});
        dueQuotients(MIN + 1, -1, new int[] {MAX, 0, 0, MIN + 1});
    }

    private void fence() {
        s.says("Terms", "fence does nothing.");
        StepMachine x = Load.machine(0x0ff0000f);
        for (int r = 1; r < 32; r++) {
            x.set(r, r);
        }
        s.dueGoesOn("fence", x, 4);
        for (int r = 0; r < 32; r++) {
            s.due("get(" + r + ")", x.get(r), r);
        }
    }

    private void ecallAndEbreak() {
        s.says("Terms", "ecall: a SERVICE. ebreak: STATE 6, PC stays.");
        StepMachine x = Load.machine(Load.nop(), Load.ecall(), Load.ebreak());
        x.set(17, 3);
        x.set(10, 99);
        x.run(2);
        s.due("CLOCK", x.get(10), 1);
        s.due("ebreak: step()", x.step(), 6);
        s.dueState("ebreak", x, 6, 6, 6, 3);
    }

    private void otherwiseOn() {
        s.says("Terms", "Otherwise PC becomes PC + W (wrapping).");
        int[][] rows = {{0x0001, 2}, {Load.li(5, 1), 4}};
        for (int[] row : rows) {
            StepMachine x = new StepMachine();
            x.segment(0, 0, SIZE, 4);
            Load.words(x, SIZE - row[1], row[0]);
            x.set(32, SIZE - row[1]);
            s.due("the last word of memory: step()", x.step(), 0);
            s.dueState("behind it", x, 0, 0, SIZE, 1);
            s.due("step() beyond", x.step(), 1);
            s.dueState("beyond memory", x, 1, SIZE, SIZE, 1);
        }
    }

    private void jumps() {
        s.says("Terms", "To JUMP: PC becomes the target;");
        for (int target : new int[] {0, 2, SIZE - 2, SIZE, MAX - 1, MIN, -2}) {
            StepMachine x = machine("jalr", 0, target, 0);
            dueTarget("jalr to " + target, x, target);
        }
    }

    private void jumpsWithMarking() {
        s.says("Terms", "with MARKING on, if that is not marked (or beyond memory): STATE 5 (d has come all the same).");
        for (int target : new int[] {0, 2, 64, SIZE - 2}) {
            StepMachine x = machine("jalr", 0, target, 0);
            x.marking(true);
            s.due("jalr to " + target + ", no mark: step()", x.step(), 5);
            s.dueState("jalr to " + target, x, 5, target, target, 1);
            s.due("jalr: d", x.get(7), 4);
            StepMachine y = machine("jalr", 0, target, 0);
            y.marking(true);
            y.mark(target, true);
            dueTarget("jalr to " + target + ", marked", y, target);
            s.due("jalr: d", y.get(7), 4);
        }
        for (int target : new int[] {SIZE, SIZE + 64, MAX - 1, MIN, -2}) {
            StepMachine x = machine("jalr", 0, target, 0);
            x.marking(true);
            x.mark(0, true);
            x.mark(64, true);
            x.mark(SIZE - 2, true);
            s.due("jalr beyond memory: step()", x.step(), 5);
            s.dueState("jalr to " + target, x, 5, target, target, 1);
        }
        otherJumpsWithMarking();
    }

    private void otherJumpsWithMarking() {
        int[] words = {Load.jal(1, 64), Kinds.word("beq", 0, 0, 0, 64), Kinds.word("bge", 0, 0, 0, 4), Kinds.word("c.j", 0, 0, 0, 64),
            Kinds.word("c.jal", 0, 0, 0, 64), Kinds.word("c.beqz", 0, 8, 0, 2), Kinds.word("c.jr", 0, 5, 0, 0),
            Kinds.word("c.jalr", 0, 5, 0, 0)};
        for (int w : words) {
            StepMachine x = Load.machine(w);
            x.marking(true);
            x.set(5, 64);
            s.due(Integer.toHexString(w) + ": step()", x.step(), 5);
        }
        for (int w : new int[] {Kinds.word("bne", 0, 0, 0, 64), Kinds.word("c.bnez", 0, 8, 0, 64), Load.nop()}) {
            StepMachine x = Load.machine(w);
            x.marking(true);
            s.due(Integer.toHexString(w) + ", not taken: step()", x.step(), 0);
        }
    }
}
