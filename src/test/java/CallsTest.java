/** Promises 2 to 10 and 14 to 16: what the calls set and ask, their edges, and what is refused. */
public final class CallsTest {

    private static final Check CHECK = new Check("CallsTest");
    private static final int SIZE = 131072;
    private static final int MIN = Integer.MIN_VALUE;
    private static final int MAX = Integer.MAX_VALUE;

    public static void main(String[] args) {
        segments();
        segmentsRefused();
        marks();
        marksOfNeighbours();
        pokes();
        pokeLeavesTheOthers();
        registers();
        inputs();
        inputsTakenCount();
        halts();
        stateAsksOnly();
        outputs();
        CHECK.end();
    }

    private static void segments() {
        StepMachine x = new StepMachine();
        CHECK.due("segment(5, 100, 10, 7)", x.segment(5, 100, 10, 7), true);
        CHECK.due("rights(99)", x.rights(99), 0);
        CHECK.due("rights(100)", x.rights(100), 7);
        CHECK.due("rights(109)", x.rights(109), 7);
        CHECK.due("rights(110)", x.rights(110), 0);
        CHECK.due("segment(6, 0, 131072, 2)", x.segment(6, 0, SIZE, 2), true);
        CHECK.due("rights(100), the least number", x.rights(100), 7);
        CHECK.due("rights(110)", x.rights(110), 2);
        CHECK.due("rights(0)", x.rights(0), 2);
        CHECK.due("rights(131071)", x.rights(SIZE - 1), 2);
        CHECK.due("rights(131072)", x.rights(SIZE), 0);
        CHECK.due("rights(-1)", x.rights(-1), 0);
        CHECK.due("rights(MIN)", x.rights(MIN), 0);
        CHECK.due("segment(0, 104, 2, 0)", x.segment(0, 104, 2, 0), true);
        CHECK.due("rights(104), a segment without rights", x.rights(104), 0);
        CHECK.due("rights(106)", x.rights(106), 7);
        CHECK.due("segment(0, 104, 0, 7)", x.segment(0, 104, 0, 7), true);
        CHECK.due("rights(104), a segment of size 0", x.rights(104), 7);
        CHECK.due("segment(7, 131072, 0, 1)", x.segment(7, SIZE, 0, 1), true);
        CHECK.due("segment(5, 0, 1, 1)", x.segment(5, 0, 1, 1), true);
        CHECK.due("rights(100), moved away", x.rights(100), 2);
        CHECK.due("rights(0)", x.rights(0), 1);
        CHECK.due("segment(0, 131071, 1, 4)", x.segment(0, SIZE - 1, 1, 4), true);
        CHECK.due("rights(131071)", x.rights(SIZE - 1), 4);
    }

    private static void segmentsRefused() {
        StepMachine x = new StepMachine();
        int[][] rows = {
            {-1, 0, 4, 7}, {8, 0, 4, 7}, {MIN, 0, 4, 7}, {MAX, 0, 4, 7}, {0, -1, 4, 7}, {0, 0, -1, 7}, {0, MIN, 4, 7},
            {0, 4, MIN, 7}, {0, 1, SIZE, 7}, {0, SIZE, 1, 7}, {0, SIZE + 1, 0, 7}, {0, 0, SIZE + 1, 7}, {0, MAX, MAX, 7},
            {0, MAX, 1, 7}, {0, 1, MAX, 7}, {0, 0, 4, -1}, {0, 0, 4, 8}, {0, 0, 4, MIN}, {0, 0, 4, MAX},
        };
        for (int[] row : rows) {
            String call = "segment(" + row[0] + ", " + row[1] + ", " + row[2] + ", " + row[3] + ")";
            CHECK.due(call, x.segment(row[0], row[1], row[2], row[3]), false);
        }
        CHECK.due("rights(0)", x.rights(0), 0);
    }

    private static void marks() {
        StepMachine x = new StepMachine();
        x.segment(0, 0, 64, 5);
        for (int at : new int[] {0, 2, 62, 64, 66, 1024, SIZE - 2}) {
            int plain = at < 64 ? 5 : 0;
            CHECK.due("mark(" + at + ", true)", x.mark(at, true), true);
            CHECK.due("rights(" + at + ")", x.rights(at), plain + 8);
            CHECK.due("mark(" + at + ", true) again", x.mark(at, true), true);
            CHECK.due("rights(" + at + ")", x.rights(at), plain + 8);
            CHECK.due("rights(" + (at + 1) + ")", x.rights(at + 1), plain);
        }
        CHECK.due("rights(4)", x.rights(4), 5);
        CHECK.due("mark(2, false)", x.mark(2, false), true);
        CHECK.due("rights(2)", x.rights(2), 5);
        CHECK.due("rights(0)", x.rights(0), 13);
        CHECK.due("mark(4, false), not marked", x.mark(4, false), true);
        for (int at : new int[] {1, 63, SIZE - 1, SIZE, SIZE + 2, -1, -2, MIN, MAX}) {
            CHECK.due("mark(" + at + ", true)", x.mark(at, true), false);
            CHECK.due("mark(" + at + ", false)", x.mark(at, false), false);
        }
        CHECK.due("rights(131072)", x.rights(SIZE), 0);
        CHECK.due("rights(-2)", x.rights(-2), 0);
    }

    private static void marksOfNeighbours() {
        StepMachine x = new StepMachine();
        for (int at = 0; at < 400; at += 6) {
            x.mark(at, true);
        }
        for (int at = 0; at < 400; at += 12) {
            x.mark(at, false);
        }
        for (int at = 0; at < 400; at++) {
            CHECK.due("rights(" + at + ")", x.rights(at), at % 12 == 6 ? 8 : 0);
        }
    }

    private static void pokeLeavesTheOthers() {
        for (int at = 8; at < 16; at++) {
            for (int n = 1; n <= 8; n++) {
                StepMachine x = new StepMachine();
                for (int k = 0; k < 32; k += 8) {
                    x.poke(k, 8, -1L);
                }
                x.poke(at, n, 0x0102030405060708L);
                for (int k = 0; k < 32; k++) {
                    int want = k >= at && k < at + n ? k - at + 1 : 255;
                    CHECK.due("peek(" + k + ") after poke(" + at + ", " + n + ")", x.peek(k), want);
                }
            }
        }
    }

    private static void pokes() {
        for (int n = 1; n <= 8; n++) {
            for (int at : new int[] {0, 1, 2, 3, 777, SIZE - n}) {
                StepMachine x = new StepMachine();
                CHECK.due("poke(" + at + ", " + n + ")", x.poke(at, n, 0x81828384f5f6f7f8L), true);
                for (int k = -1; k < 9; k++) {
                    long byteDue = k >= 0 && k < n ? 0x81828384f5f6f7f8L >>> 56 - 8 * k & 255 : 0;
                    int want = at + k < 0 || at + k >= SIZE ? -1 : (int) byteDue;
                    CHECK.due("peek(" + (at + k) + ")", x.peek(at + k), want);
                }
            }
        }
        StepMachine x = new StepMachine();
        int[][] refused = {{0, 0}, {0, 9}, {0, -1}, {0, MIN}, {0, MAX}, {-1, 1}, {-1, 8}, {SIZE, 1}, {SIZE - 1, 2},
            {SIZE - 7, 8}, {MIN, 1}, {MAX, 1}, {MAX, 8}, {MIN, MIN}};
        for (int[] row : refused) {
            CHECK.due("poke(" + row[0] + ", " + row[1] + ")", x.poke(row[0], row[1], -1L), false);
        }
        for (int at : new int[] {0, SIZE - 1, SIZE - 7}) {
            CHECK.due("peek(" + at + "), refused", x.peek(at), 0);
        }
        for (int at : new int[] {-1, SIZE, MIN, MAX}) {
            CHECK.due("peek(" + at + ")", x.peek(at), -1);
        }
    }

    private static void registers() {
        StepMachine x = new StepMachine();
        for (int r = 1; r < 32; r++) {
            CHECK.due("set(" + r + ")", x.set(r, 1000 * r - 7), true);
        }
        for (int r = 1; r < 32; r++) {
            CHECK.due("get(" + r + ")", x.get(r), 1000 * r - 7);
        }
        CHECK.due("get(0)", x.get(0), 0);
        for (int r : new int[] {0, -1, 34, MIN, MAX, 64}) {
            CHECK.due("set(" + r + ", 2)", x.set(r, 2), false);
            CHECK.due("get(" + r + ")", x.get(r), 0);
        }
        for (int pc : new int[] {2, SIZE - 2, SIZE, -2, MIN, MAX - 1}) {
            CHECK.due("set(32, " + pc + ")", x.set(32, pc), true);
            CHECK.due("get(32)", x.get(32), pc);
            CHECK.due("set(32, " + (pc + 1) + ")", x.set(32, pc + 1), false);
            CHECK.due("get(32)", x.get(32), pc);
        }
        CHECK.due("step() beyond memory", x.step(), 1);
        CHECK.due("set(32, 4) in an END", x.set(32, 4), true);
        CHECK.due("the state stays", x.state(0), 1);
        CHECK.due("the culprit stays", x.state(1), MAX - 1);
        CHECK.due("set(33, 7)", x.set(33, 7), true);
        CHECK.due("state(0)", x.state(0), 0);
        CHECK.due("state(1)", x.state(1), 0);
        CHECK.due("get(33)", x.get(33), 0);
        CHECK.due("set(33, -1) in STATE 0", x.set(33, -1), true);
    }

    private static void inputs() {
        StepMachine x = new StepMachine();
        for (int n : new int[] {0, 9, -1, MIN, MAX}) {
            CHECK.due("input(" + n + ")", x.input(n, -1L), false);
        }
        CHECK.due("state(6)", x.state(6), 0);
        for (int k = 0; k < 124; k++) {
            CHECK.due("input(8)", x.input(8, k), true);
        }
        CHECK.due("input(7)", x.input(7, 0L), true);
        CHECK.due("state(6)", x.state(6), 999);
        CHECK.due("input(2), 1001 bytes", x.input(2, 0L), false);
        CHECK.due("state(6)", x.state(6), 999);
        CHECK.due("input(1)", x.input(1, 0L), true);
        CHECK.due("input(1), 1001 bytes", x.input(1, 0L), false);
        CHECK.due("state(6)", x.state(6), 1000);
    }

    private static void inputsTakenCount() {
        StepMachine x = Load.machine(Load.ecall(), Load.jal(0, -4));
        x.set(17, 2);
        for (int k = 0; k < 125; k++) {
            x.input(8, 0xfe01020304050607L);
        }
        CHECK.due("run(4)", x.run(4), 4);
        CHECK.due("state(6), two taken", x.state(6), 998);
        CHECK.due("get(10)", x.get(10), 1);
        CHECK.due("input(1), those taken count", x.input(1, 0L), false);
        CHECK.due("run(1996)", x.run(1996), 1996);
        CHECK.due("state(6)", x.state(6), 0);
        CHECK.due("get(10), the last byte", x.get(10), 7);
        CHECK.due("run(1)", x.run(1), 1);
        CHECK.due("get(10), none left", x.get(10), -1);
        CHECK.due("input(1), all taken", x.input(1, 0L), false);
    }

    private static void halts() {
        StepMachine x = new StepMachine();
        int[] places = {0, 2, 400, SIZE - 2, SIZE, MAX - 1, 4, 6};
        for (int at : new int[] {1, -1, -2, MIN, MAX}) {
            CHECK.due("halt(" + at + ", true)", x.halt(at, true), false);
            CHECK.due("halt(" + at + ", false)", x.halt(at, false), false);
        }
        for (int k = 0; k < 8; k++) {
            CHECK.due("halt(" + places[k] + ", false), none yet", x.halt(places[k], false), false);
            CHECK.due("halt(" + places[k] + ", true)", x.halt(places[k], true), true);
            CHECK.due("halt(" + places[k] + ", true) again", x.halt(places[k], true), false);
            CHECK.due("state(8)", x.state(8), k + 1);
        }
        CHECK.due("halt(8, true), there are 8", x.halt(8, true), false);
        CHECK.due("halt(8, false)", x.halt(8, false), false);
        CHECK.due("halt(2, false)", x.halt(2, false), true);
        CHECK.due("halt(2, false) again", x.halt(2, false), false);
        CHECK.due("state(8)", x.state(8), 7);
        CHECK.due("halt(8, true)", x.halt(8, true), true);
        CHECK.due("halt(2, true), there are 8", x.halt(2, true), false);
        for (int at : new int[] {0, 400, SIZE - 2, SIZE, MAX - 1, 4, 6, 8}) {
            CHECK.due("halt(" + at + ", false)", x.halt(at, false), true);
        }
        CHECK.due("state(8)", x.state(8), 0);
    }

    private static void stateAsksOnly() {
        StepMachine x = Load.machine(Load.li(10, 42), Load.ecall());
        x.set(17, 10);
        x.input(3, 0L);
        x.halt(100, true);
        CHECK.due("run(9)", x.run(9), 2);
        int[] want = {8, 4, 42, 2, 2, 0, 3, 2, 1};
        for (int round = 0; round < 2; round++) {
            for (int what = 0; what < want.length; what++) {
                CHECK.due("state(" + what + ")", x.state(what), want[what]);
            }
        }
        for (int what : new int[] {-1, 9, MIN, MAX}) {
            CHECK.due("state(" + what + ")", x.state(what), -1);
        }
        x.set(33, 0);
        for (int what : new int[] {2, 3, 4, 5, 6, 8}) {
            CHECK.due("state(" + what + ") when the state is set", x.state(what), want[what]);
        }
    }

    private static void outputs() {
        StepMachine x = Load.machine(Load.ecall(), Load.addi(10, 10, 253), Load.jal(0, -8));
        x.set(17, 1);
        x.set(10, -1);
        CHECK.due("run(6)", x.run(6), 6);
        CHECK.due("state(5)", x.state(5), 2);
        CHECK.due("output(0)", x.output(0), 255);
        CHECK.due("output(1)", x.output(1), 254);
        for (int k : new int[] {2, -1, MIN, MAX, 2000}) {
            CHECK.due("output(" + k + ")", x.output(k), -1);
        }
    }
}
