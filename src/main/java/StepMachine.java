/**
 * A machine of 32 bits that works by instruction words of 32 and 16 bits, in a memory with
 * rights, and that can take its latest steps back. No call throws.
 */
public final class StepMachine {

    public static final int NONE = -1;

    private static final int REGISTER_OF_PC = 32;
    private static final int REGISTER_OF_STATE = 33;
    private static final int MOST_BYTES_A_CALL = 8;
    private static final int MOST_UNITS_A_RUN = 2000;

    // A step that is no unit only goes on to a higher address (a jump goes to a mark, where a
    // unit begins, or ends the run), so memory's 65,536 even addresses and the step that fails
    // behind them bound every row of steps without a unit.
    private static final int MOST_STEPS_A_UNIT = 65537;

    private final Memory memory;
    private final Guard guard;
    private final Halts halts;
    private final Ports ports;
    private final Trail trail;
    private final Core core;

    public StepMachine() {
        memory = new Memory();
        guard = new Guard();
        halts = new Halts();
        ports = new Ports();
        trail = new Trail();
        core = new Core(memory, guard, ports, trail);
    }

    public boolean segment(int k, int from, int size, int rights) {
        return forgetIf(guard.putSegment(k, from, size, rights));
    }

    public boolean mark(int at, boolean on) {
        return forgetIf(guard.putMark(at, on));
    }

    public void marking(boolean on) {
        guard.marking = on;
        trail.forget();
    }

    public boolean poke(int at, int n, long eight) {
        if (n < 1 || n > MOST_BYTES_A_CALL || at < 0 || at > Memory.SIZE - n) {
            return false;
        }
        for (int k = 0; k < n; k++) {
            memory.putNumber(at + k, 1, byteOf(eight, k));
        }
        return forgetIf(true);
    }

    public int peek(int at) {
        return Memory.has(at) ? memory.number(at, 1) : NONE;
    }

    public boolean set(int r, int v) {
        if (r == REGISTER_OF_STATE) {
            core.become(Core.READY, 0);
            return forgetIf(true);
        }
        if (r == REGISTER_OF_PC) {
            return forgetIf(core.putPc(v));
        }
        return forgetIf(core.putRegister(r, v));
    }

    public int get(int r) {
        return r == REGISTER_OF_PC ? core.pc : core.register(r);
    }

    public boolean input(int n, long eight) {
        if (n < 1 || n > MOST_BYTES_A_CALL || !ports.hasRoomIn(n)) {
            return false;
        }
        for (int k = 0; k < n; k++) {
            ports.give(byteOf(eight, k));
        }
        return forgetIf(true);
    }

    public boolean halt(int at, boolean on) {
        return forgetIf(on ? halts.add(at) : halts.remove(at));
    }

    public int step() {
        if (!core.hasEnded()) {
            core.advance();
        }
        return core.state;
    }

    public int run(int n) {
        if (n < 0 || n > MOST_UNITS_A_RUN) {
            return NONE;
        }
        int unitsAhead = core.units;
        int bound = (n + 1) * MOST_STEPS_A_UNIT;
        for (int k = 0; k < bound && !core.hasEnded(); k++) {
            if (k > 0 && halts.has(core.pc)) {
                core.become(Core.HALTED, core.pc);
                break;
            }
            if (core.units - unitsAhead >= n && core.beginsUnit()) {
                break;
            }
            core.advance();
        }
        return core.units - unitsAhead;
    }

    public int back(int n) {
        int undone = 0;
        while (undone < n && undone < Trail.MOST) {
            Kept latest = trail.takeLatest();
            if (latest == null) {
                break;
            }
            core.undo(latest);
            undone++;
        }
        return undone;
    }

    public int state(int what) {
        switch (what) {
            case 0: return core.state;
            case 1: return core.culprit;
            case 2: return core.value;
            case 3: return core.steps;
            case 4: return core.units;
            case 5: return ports.putCount;
            case 6: return ports.givenCount - ports.takenCount;
            case 7: return trail.count;
            case 8: return halts.count;
            default: return NONE;
        }
    }

    public int output(int k) {
        return ports.outputAt(k);
    }

    public int rights(int at) {
        return guard.rightsAt(at) + (guard.isMarked(at) ? 8 : 0);
    }

    // A refused call leaves the kept steps; one that changed anything makes them useless.
    private boolean forgetIf(boolean done) {
        if (done) {
            trail.forget();
        }
        return done;
    }

    private static int byteOf(long eight, int k) {
        return (int) (eight >>> (56 - 8 * k)) & 255;
    }

    /** The bytes, four to a cell: a store that is aligned changes one cell alone. */
    private static final class Memory {

        static final int SIZE = 131072;

        private final int[] cells = new int[SIZE / 4];

        static boolean has(int at) {
            return at >= 0 && at < SIZE;
        }

        int number(int at, int bytes) {
            return cellOf(at) >>> shiftOf(at) & maskOf(bytes);
        }

        void putNumber(int at, int bytes, int v) {
            int mask = maskOf(bytes) << shiftOf(at);
            putCell(at, cellOf(at) & ~mask | v << shiftOf(at) & mask);
        }

        int cellOf(int at) {
            return has(at) ? cells[at >> 2] : 0;
        }

        void putCell(int at, int v) {
            if (has(at)) {
                cells[at >> 2] = v;
            }
        }

        private static int shiftOf(int at) {
            return (at & 3) * 8;
        }

        private static int maskOf(int bytes) {
            return bytes >= 4 ? -1 : (1 << 8 * bytes) - 1;
        }
    }

    /** What may be done at an address: the segments' rights, and the marks. */
    private static final class Guard {

        static final int READ = 1;
        static final int WRITE = 2;
        static final int EXECUTE = 4;

        private static final int SEGMENTS = 8;
        private static final int ALL_RIGHTS = 7;

        private final int[] begins = new int[SEGMENTS];
        private final int[] sizes = new int[SEGMENTS];
        private final int[] allowed = new int[SEGMENTS];
        private final int[] marks = new int[Memory.SIZE / 64];
        boolean marking;

        boolean putSegment(int k, int from, int size, int rights) {
            if (k < 0 || k >= SEGMENTS || rights < 0 || rights > ALL_RIGHTS) {
                return false;
            }
            if (from < 0 || size < 0 || size > Memory.SIZE || from > Memory.SIZE - size) {
                return false;
            }
            begins[k] = from;
            sizes[k] = size;
            allowed[k] = rights;
            return true;
        }

        int rightsAt(int at) {
            for (int k = 0; k < SEGMENTS; k++) {
                if (at >= begins[k] && at - begins[k] < sizes[k]) {
                    return allowed[k];
                }
            }
            return 0;
        }

        /** The first of the n bytes without the right, counted from 0, or NONE. */
        int firstWithout(int right, int at, int n) {
            for (int k = 0; k < n; k++) {
                if ((rightsAt(at + k) & right) == 0) {
                    return k;
                }
            }
            return NONE;
        }

        boolean putMark(int at, boolean on) {
            if (!mayBeMarked(at)) {
                return false;
            }
            int bit = 1 << (at >> 1 & 31);
            int others = marks[at >> 6] & ~bit;
            marks[at >> 6] = on ? others | bit : others;
            return true;
        }

        boolean isMarked(int at) {
            return mayBeMarked(at) && (marks[at >> 6] >>> (at >> 1 & 31) & 1) != 0;
        }

        private static boolean mayBeMarked(int at) {
            return at >= 0 && at < Memory.SIZE && (at & 1) == 0;
        }
    }

    /** The addresses that a run halts at. */
    private static final class Halts {

        private static final int MOST = 8;

        private final int[] places = new int[MOST];
        int count;

        boolean has(int at) {
            return find(at) != NONE;
        }

        boolean add(int at) {
            if (at < 0 || (at & 1) != 0 || has(at) || count >= MOST) {
                return false;
            }
            places[count] = at;
            count++;
            return true;
        }

        boolean remove(int at) {
            int k = find(at);
            if (k == NONE) {
                return false;
            }
            count--;
            places[k] = places[count];
            return true;
        }

        private int find(int at) {
            for (int k = 0; k < count; k++) {
                if (places[k] == at) {
                    return k;
                }
            }
            return NONE;
        }
    }

    /** The rows of bytes that come in and go out. */
    private static final class Ports {

        private static final int MOST_IN = 1000;
        private static final int MOST_OUT = 2000;

        private final byte[] in = new byte[MOST_IN];
        private final byte[] out = new byte[MOST_OUT];
        int givenCount;
        int takenCount;
        int putCount;

        boolean hasRoomIn(int n) {
            return n <= MOST_IN - givenCount;
        }

        void give(int v) {
            if (hasRoomIn(1)) {
                in[givenCount] = (byte) v;
                givenCount++;
            }
        }

        int take() {
            if (takenCount >= givenCount) {
                return NONE;
            }
            int v = in[takenCount] & 255;
            takenCount++;
            return v;
        }

        int put(int v) {
            if (putCount >= MOST_OUT) {
                return NONE;
            }
            out[putCount] = (byte) v;
            putCount++;
            return putCount;
        }

        int outputAt(int k) {
            return k >= 0 && k < putCount ? out[k] & 255 : NONE;
        }
    }

    /** What a word says: its kind among the long ones, its parts and its bytes. */
    private static final class Word {

        static final int NO_KIND = -1;
        static final int LUI = 0;
        static final int AUIPC = 1;
        static final int JAL = 2;
        static final int JALR = 3;
        static final int BEQ = 4;
        static final int BNE = 5;
        static final int BLT = 6;
        static final int BGE = 7;
        static final int BLTU = 8;
        static final int BGEU = 9;
        static final int LB = 10;
        static final int LH = 11;
        static final int LW = 12;
        static final int LBU = 13;
        static final int LHU = 14;
        static final int SB = 15;
        static final int SH = 16;
        static final int SW = 17;
        static final int ADDI = 18;
        static final int SLTI = 19;
        static final int SLTIU = 20;
        static final int XORI = 21;
        static final int ORI = 22;
        static final int ANDI = 23;
        static final int SLLI = 24;
        static final int SRLI = 25;
        static final int SRAI = 26;
        static final int ADD = 27;
        static final int SUB = 28;
        static final int SLL = 29;
        static final int SLT = 30;
        static final int SLTU = 31;
        static final int XOR = 32;
        static final int SRL = 33;
        static final int SRA = 34;
        static final int OR = 35;
        static final int AND = 36;
        static final int MUL = 37;
        static final int MULH = 38;
        static final int MULHSU = 39;
        static final int MULHU = 40;
        static final int DIV = 41;
        static final int DIVU = 42;
        static final int REM = 43;
        static final int REMU = 44;
        static final int FENCE = 45;
        static final int ECALL = 46;
        static final int EBREAK = 47;

        int bytes;
        int kind;
        int d;
        int a;
        int b;
        int i;

        static boolean isLong(int lowerHalf) {
            return (lowerHalf & 3) == 3;
        }

        /** Of no kind until the word's bits have been found to be of one. */
        void clear(int ofBytes) {
            bytes = ofBytes;
            is(NO_KIND, 0, 0, 0, 0);
        }

        void is(int newKind, int newD, int newA, int newB, int newI) {
            kind = newKind;
            d = newD;
            a = newA;
            b = newB;
            i = newI;
        }

        boolean isStore() {
            return kind >= SB && kind <= SW;
        }

        /** How many bytes of memory it loads or stores. */
        int accessBytes() {
            switch (kind) {
                case LB: case LBU: case SB: return 1;
                case LH: case LHU: case SH: return 2;
                case LW: case SW: return 4;
                default: return 0;
            }
        }

        /** Some bits of w, the lowest one at low, moved to where they lie in an immediate. */
        static int part(int w, int low, int count, int to) {
            return (w >>> low & (1 << count) - 1) << to;
        }

        static int signed(int v, int bits) {
            return (v << (32 - bits)) >> (32 - bits);
        }
    }

    /** Reads the words of 32 bits. */
    private static final class LongForm {

        private static final int FENCE_WORD = 0x0ff0000f;
        private static final int ECALL_WORD = 0x00000073;
        private static final int EBREAK_WORD = 0x00100073;

        // The kinds by F3; -1 is no kind.
        private static final int[] BRANCHES = {4, 5, -1, -1, 6, 7, 8, 9};
        private static final int[] LOADS = {10, 11, 12, -1, 13, 14, -1, -1};
        private static final int[] STORES = {15, 16, 17, -1, -1, -1, -1, -1};
        private static final int[] IMMEDIATES = {18, -1, 19, 20, 21, -1, 22, 23};
        private static final int[] PLAIN = {27, 29, 30, 31, 32, 33, 35, 36};
        private static final int[] OTHER = {28, -1, -1, -1, -1, 34, -1, -1};
        private static final int[] PRODUCTS = {37, 38, 39, 40, 41, 42, 43, 44};

        static void read(int w, Word into) {
            into.clear(4);
            int d = w >>> 7 & 31;
            int a = w >>> 15 & 31;
            int b = w >>> 20 & 31;
            int f3 = w >>> 12 & 7;
            int i = w >> 20;
            switch (w & 127) {
                case 0x37: into.is(Word.LUI, d, 0, 0, w >>> 12); break;
                case 0x17: into.is(Word.AUIPC, d, 0, 0, w >>> 12); break;
                case 0x6f: into.is(Word.JAL, d, 0, 0, immediateOfJump(w)); break;
                case 0x67: into.is(f3 == 0 ? Word.JALR : Word.NO_KIND, d, a, 0, i); break;
                case 0x63: into.is(kindIn(BRANCHES, f3), 0, a, b, immediateOfBranch(w)); break;
                case 0x03: into.is(kindIn(LOADS, f3), d, a, 0, i); break;
                case 0x23: into.is(kindIn(STORES, f3), 0, a, b, immediateOfStore(w)); break;
                case 0x13: readImmediate(w, into); break;
                case 0x33: into.is(kindOfPair(f3, w >>> 25), d, a, b, 0); break;
                default: into.is(kindOfWhole(w), 0, 0, 0, 0);
            }
        }

        private static int kindIn(int[] kinds, int f3) {
            return f3 >= 0 && f3 < kinds.length ? kinds[f3] : Word.NO_KIND;
        }

        private static int kindOfPair(int f3, int f7) {
            switch (f7) {
                case 0: return kindIn(PLAIN, f3);
                case 1: return kindIn(PRODUCTS, f3);
                case 32: return kindIn(OTHER, f3);
                default: return Word.NO_KIND;
            }
        }

        private static int kindOfWhole(int w) {
            switch (w) {
                case FENCE_WORD: return Word.FENCE;
                case ECALL_WORD: return Word.ECALL;
                case EBREAK_WORD: return Word.EBREAK;
                default: return Word.NO_KIND;
            }
        }

        private static void readImmediate(int w, Word into) {
            int d = w >>> 7 & 31;
            int a = w >>> 15 & 31;
            int f3 = w >>> 12 & 7;
            if (f3 == 1 || f3 == 5) {
                into.is(kindOfShift(f3, w >>> 25), d, a, 0, w >>> 20 & 31);
            } else {
                into.is(kindIn(IMMEDIATES, f3), d, a, 0, w >> 20);
            }
        }

        private static int kindOfShift(int f3, int f7) {
            if (f7 == 0) {
                return f3 == 1 ? Word.SLLI : Word.SRLI;
            }
            return f7 == 32 && f3 == 5 ? Word.SRAI : Word.NO_KIND;
        }

        private static int immediateOfJump(int w) {
            int i = Word.part(w, 31, 1, 20) | Word.part(w, 21, 10, 1)
                    | Word.part(w, 20, 1, 11) | Word.part(w, 12, 8, 12);
            return Word.signed(i, 21);
        }

        private static int immediateOfBranch(int w) {
            int i = Word.part(w, 31, 1, 12) | Word.part(w, 25, 6, 5)
                    | Word.part(w, 8, 4, 1) | Word.part(w, 7, 1, 11);
            return Word.signed(i, 13);
        }

        private static int immediateOfStore(int w) {
            return Word.signed(Word.part(w, 25, 7, 5) | Word.part(w, 7, 5, 0), 12);
        }
    }

    /** Reads the words of 16 bits, each as the long one for which it stands. */
    private static final class ShortForm {

        private static final int NOP_WORD = 0x0001;
        private static final int EBREAK_WORD = 0x9002;
        private static final int LINK = 1;
        private static final int STACK = 2;

        static void read(int w, Word into) {
            into.clear(2);
            switch (w & 3) {
                case 0: readFirst(w, into); break;
                case 1: readSecond(w, into); break;
                case 2: readThird(w, into); break;
                default: break;
            }
        }

        private static void readFirst(int w, Word into) {
            int near = 8 + (w >>> 2 & 7);
            int a = 8 + (w >>> 7 & 7);
            int i = Word.part(w, 10, 3, 3) | Word.part(w, 6, 1, 2) | Word.part(w, 5, 1, 6);
            switch (w >>> 13) {
                case 0: readStackAddress(w, near, into); break;
                case 2: into.is(Word.LW, near, a, 0, i); break;
                case 6: into.is(Word.SW, 0, a, near, i); break;
                default: break;
            }
        }

        private static void readStackAddress(int w, int d, Word into) {
            int i = Word.part(w, 11, 2, 4) | Word.part(w, 7, 4, 6)
                    | Word.part(w, 6, 1, 2) | Word.part(w, 5, 1, 3);
            if (i != 0) {
                into.is(Word.ADDI, d, STACK, 0, i);
            }
        }

        private static void readSecond(int w, Word into) {
            int d = w >>> 7 & 31;
            int i = sixBits(w);
            switch (w >>> 13) {
                case 0: readAddition(w, d, i, into); break;
                case 1: into.is(Word.JAL, LINK, 0, 0, immediateOfJump(w)); break;
                case 2: into.is(d != 0 ? Word.ADDI : Word.NO_KIND, d, 0, 0, i); break;
                case 3: readUpper(w, d, i, into); break;
                case 4: readNearPair(w, i, into); break;
                case 5: into.is(Word.JAL, 0, 0, 0, immediateOfJump(w)); break;
                case 6: into.is(Word.BEQ, 0, 8 + (d & 7), 0, immediateOfBranch(w)); break;
                case 7: into.is(Word.BNE, 0, 8 + (d & 7), 0, immediateOfBranch(w)); break;
                default: break;
            }
        }

        private static void readAddition(int w, int d, int i, Word into) {
            if (w == NOP_WORD || d != 0 && i != 0) {
                into.is(Word.ADDI, d, d, 0, i);
            }
        }

        private static void readUpper(int w, int d, int i, Word into) {
            // Both kinds ask for bits other than 0 in the same six places.
            if (d == 0 || i == 0) {
                return;
            }
            if (d == STACK) {
                int move = Word.part(w, 12, 1, 9) | Word.part(w, 6, 1, 4) | Word.part(w, 5, 1, 6)
                        | Word.part(w, 3, 2, 7) | Word.part(w, 2, 1, 5);
                into.is(Word.ADDI, STACK, STACK, 0, Word.signed(move, 10));
            } else {
                into.is(Word.LUI, d, 0, 0, i & 0xfffff);
            }
        }

        private static void readNearPair(int w, int i, Word into) {
            int d = 8 + (w >>> 7 & 7);
            boolean highBit = (w >>> 12 & 1) != 0;
            switch (w >>> 10 & 3) {
                case 0: into.is(kindOfShift(Word.SRLI, highBit, i), d, d, 0, i); break;
                case 1: into.is(kindOfShift(Word.SRAI, highBit, i), d, d, 0, i); break;
                case 2: into.is(Word.ANDI, d, d, 0, i); break;
                default: into.is(kindOfPair(w >>> 5 & 3, highBit), d, d, 8 + (w >>> 2 & 7), 0);
            }
        }

        private static int kindOfShift(int kind, boolean highBit, int i) {
            return highBit || i == 0 ? Word.NO_KIND : kind;
        }

        private static int kindOfPair(int two, boolean highBit) {
            if (highBit) {
                return Word.NO_KIND;
            }
            switch (two) {
                case 0: return Word.SUB;
                case 1: return Word.XOR;
                case 2: return Word.OR;
                default: return Word.AND;
            }
        }

        private static void readThird(int w, Word into) {
            int d = w >>> 7 & 31;
            int b = w >>> 2 & 31;
            switch (w >>> 13) {
                case 0: into.is(shiftUp(w, d), d, d, 0, b); break;
                case 2: readStackLoad(w, d, into); break;
                case 4: readPair(w, d, b, into); break;
                case 6: into.is(Word.SW, 0, STACK, b, immediateOfStackStore(w)); break;
                default: break;
            }
        }

        private static void readStackLoad(int w, int d, Word into) {
            if (d != 0) {
                int i = Word.part(w, 12, 1, 5) | Word.part(w, 4, 3, 2) | Word.part(w, 2, 2, 6);
                into.is(Word.LW, d, STACK, 0, i);
            }
        }

        private static int shiftUp(int w, int d) {
            return d == 0 ? Word.NO_KIND : kindOfShift(Word.SLLI, (w >>> 12 & 1) != 0, w >>> 2 & 31);
        }

        private static void readPair(int w, int d, int b, Word into) {
            boolean highBit = (w >>> 12 & 1) != 0;
            if (w == EBREAK_WORD) {
                into.is(Word.EBREAK, 0, 0, 0, 0);
            } else if (d != 0 && b == 0) {
                into.is(Word.JALR, highBit ? LINK : 0, d, 0, 0);
            } else if (d != 0) {
                into.is(Word.ADD, d, highBit ? d : 0, b, 0);
            }
        }

        private static int sixBits(int w) {
            return Word.signed(Word.part(w, 12, 1, 5) | Word.part(w, 2, 5, 0), 6);
        }

        private static int immediateOfJump(int w) {
            int i = Word.part(w, 12, 1, 11) | Word.part(w, 11, 1, 4)
                    | Word.part(w, 9, 2, 8) | Word.part(w, 8, 1, 10)
                    | Word.part(w, 7, 1, 6) | Word.part(w, 6, 1, 7)
                    | Word.part(w, 3, 3, 1) | Word.part(w, 2, 1, 5);
            return Word.signed(i, 12);
        }

        private static int immediateOfBranch(int w) {
            int i = Word.part(w, 12, 1, 8) | Word.part(w, 10, 2, 3)
                    | Word.part(w, 5, 2, 6) | Word.part(w, 3, 2, 1) | Word.part(w, 2, 1, 5);
            return Word.signed(i, 9);
        }

        private static int immediateOfStackStore(int w) {
            return Word.part(w, 9, 4, 2) | Word.part(w, 7, 2, 6);
        }
    }

    /** What comes of two numbers, by the kind of the word. */
    private static final class Arithmetic {

        private static final long LOW = 0xffffffffL;

        static boolean holds(int kind, int x, int y) {
            switch (kind) {
                case Word.BEQ: return x == y;
                case Word.BNE: return x != y;
                case Word.BLT: return x < y;
                case Word.BGE: return x >= y;
                case Word.BLTU: return isBelow(x, y);
                default: return !isBelow(x, y);
            }
        }

        static int result(int kind, int x, int y) {
            switch (kind) {
                case Word.ADDI: case Word.ADD: return x + y;
                case Word.SUB: return x - y;
                case Word.SLTI: case Word.SLT: return x < y ? 1 : 0;
                case Word.SLTIU: case Word.SLTU: return isBelow(x, y) ? 1 : 0;
                case Word.XORI: case Word.XOR: return x ^ y;
                case Word.ORI: case Word.OR: return x | y;
                case Word.ANDI: case Word.AND: return x & y;
                case Word.SLLI: case Word.SLL: return x << (y & 31);
                case Word.SRLI: case Word.SRL: return x >>> (y & 31);
                case Word.SRAI: case Word.SRA: return x >> (y & 31);
                default: return product(kind, x, y);
            }
        }

        private static int product(int kind, int x, int y) {
            switch (kind) {
                case Word.MUL: return x * y;
                case Word.MULH: return (int) ((long) x * y >> 32);
                case Word.MULHSU: return (int) (x * (y & LOW) >> 32);
                case Word.MULHU: return (int) ((x & LOW) * (y & LOW) >>> 32);
                default: return quotient(kind, x, y);
            }
        }

        private static int quotient(int kind, int x, int y) {
            boolean isRest = kind == Word.REM || kind == Word.REMU;
            boolean hasSigns = kind == Word.DIV || kind == Word.REM;
            // As longs, -2^31 by -1 is 2^31, whose lowest 32 bits are what is due.
            long dividend = hasSigns ? x : x & LOW;
            long divisor = hasSigns ? y : y & LOW;
            if (divisor == 0) {
                return isRest ? x : -1;
            }
            return (int) (isRest ? dividend % divisor : dividend / divisor);
        }

        private static boolean isBelow(int x, int y) {
            return (x & LOW) < (y & LOW);
        }
    }

    /** All that one step may change, as it was ahead of it. */
    private static final class Kept {
        int pc;
        int state;
        int culprit;
        int value;
        int steps;
        int units;
        int putCount;
        int takenCount;
        int register;
        int registerWas;
        int cellAt;
        int cellWas;
    }

    /** The latest steps that count, in a ring, so that the oldest gives way to the newest. */
    private static final class Trail {

        static final int MOST = 100;

        private final Kept[] ring = new Kept[MOST];
        private int next;
        int count;

        Trail() {
            for (int k = 0; k < MOST; k++) {
                ring[k] = new Kept();
            }
        }

        Kept open() {
            Kept row = ring[place(next)];
            next = place(next + 1);
            if (count < MOST) {
                count++;
            }
            return row;
        }

        Kept takeLatest() {
            if (count == 0) {
                return null;
            }
            count--;
            next = place(next - 1);
            return ring[next];
        }

        void forget() {
            count = 0;
        }

        private static int place(int k) {
            return Math.floorMod(k, MOST);
        }
    }

    /** The registers and states, and how a step changes them. */
    private static final class Core {

        static final int READY = 0;
        static final int HALTED = 9;

        private static final int FETCH = 1;
        private static final int ILLEGAL = 2;
        private static final int LOAD = 3;
        private static final int STORE = 4;
        private static final int WILD = 5;
        private static final int BREAK = 6;
        private static final int NO_SERVICE = 7;
        private static final int ENDED = 8;

        private static final int REGISTERS = 32;
        private static final int REGISTER_OF_ANSWER = 10;
        private static final int REGISTER_OF_SERVICE = 17;

        private static final int PUT = 1;
        private static final int GET = 2;
        private static final int CLOCK = 3;
        private static final int END = 10;

        private final Memory memory;
        private final Guard guard;
        private final Ports ports;
        private final Trail trail;
        private final Word word = new Word();
        private final int[] registers = new int[REGISTERS];
        int pc;
        int state;
        int culprit;
        int value;
        int steps;
        int units;

        Core(Memory memory, Guard guard, Ports ports, Trail trail) {
            this.memory = memory;
            this.guard = guard;
            this.ports = ports;
            this.trail = trail;
        }

        boolean putPc(int v) {
            if ((v & 1) != 0) {
                return false;
            }
            pc = v;
            return true;
        }

        int register(int r) {
            return r > 0 && r < REGISTERS ? registers[r] : 0;
        }

        boolean putRegister(int r, int v) {
            if (r < 1 || r >= REGISTERS) {
                return false;
            }
            registers[r] = v;
            return true;
        }

        void become(int newState, int newCulprit) {
            state = newState;
            culprit = newCulprit;
        }

        boolean hasEnded() {
            return state != READY && state != HALTED;
        }

        boolean beginsUnit() {
            return !guard.marking || guard.isMarked(pc);
        }

        /** One step, unless it fails; not to be called in an end. */
        void advance() {
            if (!fetch() || failsInMemory()) {
                return;
            }
            boolean isUnit = beginsUnit();
            remember(trail.open());
            become(READY, 0);
            perform();
            steps++;
            if (isUnit) {
                units++;
            }
        }

        void undo(Kept kept) {
            pc = kept.pc;
            become(kept.state, kept.culprit);
            value = kept.value;
            steps = kept.steps;
            units = kept.units;
            ports.putCount = kept.putCount;
            ports.takenCount = kept.takenCount;
            putRegister(kept.register, kept.registerWas);
            memory.putCell(kept.cellAt, kept.cellWas);
        }

        private void remember(Kept kept) {
            kept.pc = pc;
            kept.state = state;
            kept.culprit = culprit;
            kept.value = value;
            kept.steps = steps;
            kept.units = units;
            kept.putCount = ports.putCount;
            kept.takenCount = ports.takenCount;
            kept.register = word.kind == Word.ECALL ? REGISTER_OF_ANSWER : word.d;
            kept.registerWas = register(kept.register);
            kept.cellAt = word.isStore() ? address() : NONE;
            kept.cellWas = memory.cellOf(kept.cellAt);
        }

        private boolean fetch() {
            if (!mayExecuteHalf(pc)) {
                return false;
            }
            int lower = memory.number(pc, 2);
            if (!Word.isLong(lower)) {
                ShortForm.read(lower, word);
            } else if (mayExecuteHalf(pc + 2)) {
                LongForm.read(lower | memory.number(pc + 2, 2) << 16, word);
            } else {
                return false;
            }
            if (word.kind == Word.NO_KIND) {
                become(ILLEGAL, pc);
            }
            return word.kind != Word.NO_KIND;
        }

        private boolean mayExecuteHalf(int at) {
            int k = guard.firstWithout(Guard.EXECUTE, at, 2);
            if (k != NONE) {
                become(FETCH, at + k);
            }
            return k == NONE;
        }

        private boolean failsInMemory() {
            int bytes = word.accessBytes();
            if (bytes == 0) {
                return false;
            }
            int at = address();
            int right = word.isStore() ? Guard.WRITE : Guard.READ;
            if ((at & bytes - 1) == 0 && guard.firstWithout(right, at, bytes) == NONE) {
                return false;
            }
            become(word.isStore() ? STORE : LOAD, at);
            return true;
        }

        private int address() {
            return register(word.a) + word.i;
        }

        private void perform() {
            int kind = word.kind;
            if (kind == Word.JAL) {
                link(pc + word.i);
            } else if (kind == Word.JALR) {
                link(address() & ~1);
            } else if (kind >= Word.BEQ && kind <= Word.BGEU) {
                branch();
            } else if (kind == Word.ECALL) {
                serve();
            } else if (kind == Word.EBREAK) {
                become(BREAK, pc);
            } else {
                change();
                goOn();
            }
        }

        /** What a word does that always goes on to the next one. */
        private void change() {
            int kind = word.kind;
            if (kind == Word.LUI) {
                putRegister(word.d, word.i << 12);
            } else if (kind == Word.AUIPC) {
                putRegister(word.d, pc + (word.i << 12));
            } else if (word.isStore()) {
                memory.putNumber(address(), word.accessBytes(), register(word.b));
            } else if (word.accessBytes() > 0) {
                putRegister(word.d, loaded());
            } else if (kind != Word.FENCE) {
                int y = kind <= Word.SRAI ? word.i : register(word.b);
                putRegister(word.d, Arithmetic.result(kind, register(word.a), y));
            }
        }

        private int loaded() {
            int v = memory.number(address(), word.accessBytes());
            switch (word.kind) {
                case Word.LB: return Word.signed(v, 8);
                case Word.LH: return Word.signed(v, 16);
                default: return v;
            }
        }

        private void goOn() {
            pc += word.bytes;
        }

        private void link(int target) {
            putRegister(word.d, pc + word.bytes);
            jump(target);
        }

        private void branch() {
            if (Arithmetic.holds(word.kind, register(word.a), register(word.b))) {
                jump(pc + word.i);
            } else {
                goOn();
            }
        }

        private void jump(int target) {
            pc = target;
            if (guard.marking && !guard.isMarked(target)) {
                become(WILD, target);
            }
        }

        private void serve() {
            int x = register(REGISTER_OF_ANSWER);
            switch (register(REGISTER_OF_SERVICE)) {
                case PUT: answer(ports.put(x)); break;
                case GET: answer(ports.take()); break;
                case CLOCK: answer(steps); break;
                case END:
                    value = x;
                    become(ENDED, pc);
                    break;
                default: become(NO_SERVICE, pc);
            }
        }

        private void answer(int v) {
            putRegister(REGISTER_OF_ANSWER, v);
            goOn();
        }
    }
}
