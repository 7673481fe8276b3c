/** Promise 11: a step, each state with its culprit, the services, and marks. */
public final class StatesTest {

    private static final Check CHECK = new Check("StatesTest");
    private static final int SIZE = 131072;

    public static void main(String[] args) {
        fetchFails();
        fetchAtTheEnds();
        loadsAndStoresFail();
        accessAtTheEndOfMemory();
        failuresInTheirOrder();
        breaks();
        services();
        outputIsFull();
        ends();
        wildJumps();
        marksWithoutMarking();
        branchesNotTakenNeedNoMark();
        stepFromHalted();
        programWritesItself();
        exampleOfTheReadme();
        CHECK.end();
    }

    private static void dueState(String call, StepMachine x, int state, int culprit, int pc, int steps) {
        CHECK.due(call + ": state(0)", x.state(0), state);
        CHECK.due(call + ": state(1)", x.state(1), culprit);
        CHECK.due(call + ": get(32)", x.get(32), pc);
        CHECK.due(call + ": state(3)", x.state(3), steps);
    }

    private static void fetchFails() {
        for (int without = 0; without < 4; without++) {
            StepMachine x = new StepMachine();
            x.segment(0, 100 + without, 1, 3);
            x.segment(1, 100, 4, 4);
            Load.words(x, 100, Load.li(5, 1));
            x.set(32, 100);
            CHECK.due("long word, byte " + without + ": step()", x.step(), 1);
            dueState("long word, byte " + without, x, 1, 100 + without, 100, 0);
            CHECK.due("nothing is done: get(5)", x.get(5), 0);
            CHECK.due("nothing is kept", x.state(7), 0);
            CHECK.due("no unit", x.state(4), 0);
            x.segment(0, 0, 0, 0);
            CHECK.due("step() in an END", x.step(), 1);
            x.set(33, 0);
            CHECK.due("step()", x.step(), 0);
        }
        StepMachine x = new StepMachine();
        x.segment(0, 0, 2, 4);
        Load.words(x, 0, Load.nop());
        CHECK.due("a short word needs two bytes alone", x.step(), 0);
        CHECK.due("step()", x.step(), 1);
        dueState("behind it", x, 1, 2, 2, 1);
        StepMachine y = new StepMachine();
        y.segment(0, 0, 1, 4);
        CHECK.due("a short word with its second byte beyond", y.step(), 1);
        dueState("its second byte", y, 1, 1, 0, 0);
        StepMachine z = new StepMachine();
        z.segment(0, 2, 2, 4);
        Load.words(z, 0, Load.li(5, 1));
        CHECK.due("the first such address", z.step(), 1);
        dueState("the first such address", z, 1, 0, 0, 0);
    }

    private static void fetchAtTheEnds() {
        StepMachine x = new StepMachine();
        x.segment(0, SIZE - 4, 4, 7);
        Load.words(x, SIZE - 4, Load.nop());
        x.poke(SIZE - 2, 2, 0x1305L << 48);
        x.set(32, SIZE - 4);
        CHECK.due("step()", x.step(), 0);
        CHECK.due("a long word that goes beyond memory", x.step(), 1);
        dueState("beyond memory", x, 1, SIZE, SIZE - 2, 1);
        for (int pc : new int[] {SIZE, -2, Integer.MIN_VALUE, Integer.MAX_VALUE - 1}) {
            x.set(33, 0);
            x.set(32, pc);
            CHECK.due("step() at " + pc, x.step(), 1);
            dueState("at " + pc, x, 1, pc, pc, 1);
        }
    }

    private static void loadsAndStoresFail() {
        Object[][] rows = {
            {"lb", 1, 3}, {"lbu", 1, 3}, {"lh", 2, 3}, {"lhu", 2, 3}, {"lw", 4, 3}, {"sb", 1, 4}, {"sh", 2, 4}, {"sw", 4, 4},
        };
        for (Object[] row : rows) {
            String name = (String) row[0];
            int bytes = (int) row[1];
            int state = (int) row[2];
            for (int off = 1; off < bytes; off++) {
                dueFailure(name, 800 + off, 7, 0, state);
            }
            for (int k = 0; k < bytes; k++) {
                dueFailure(name, 800, state == 3 ? 6 : 5, 800 + k, state);
            }
            dueFailure(name, SIZE, 7, 0, state);
            dueFailure(name, -bytes, 7, 0, state);
            dueFailure(name, Integer.MIN_VALUE, 7, 0, state);
            dueSuccess(name, state == 3 ? 1 : 2);
        }
    }

    private static void dueFailure(String name, int at, int rights, int without, int state) {
        StepMachine x = new StepMachine();
        x.segment(0, without, without == 0 ? 0 : 1, rights);
        x.segment(1, 0, SIZE, 7);
        Load.words(x, 0, Load.nop(), Kinds.word(name, 5, 6, 7, -4));
        x.set(5, 55);
        x.set(6, at + 4);
        x.set(7, -1);
        x.step();
        String call = name + " at " + at + " without " + without;
        CHECK.due(call + ": step()", x.step(), state);
        dueState(call, x, state, at, 2, 1);
        CHECK.due(call + ": get(5)", x.get(5), 55);
        CHECK.due(call + ": peek", at >= 0 && at < SIZE ? x.peek(at) : 0, 0);
        CHECK.due(call + ": kept", x.state(7), 1);
        CHECK.due(call + ": units", x.state(4), 1);
        CHECK.due(call + ": step() in an END", x.step(), state);
    }

    private static void dueSuccess(String name, int right) {
        StepMachine x = new StepMachine();
        x.segment(0, 0, 16, 4);
        x.segment(1, 800, 4, right);
        Load.words(x, 0, Kinds.word(name, 5, 6, 7, 0));
        x.set(6, 800);
        CHECK.due(name + " with its right alone: step()", x.step(), 0);
    }

    private static void accessAtTheEndOfMemory() {
        StepMachine x = new StepMachine();
        x.segment(0, 0, SIZE, 7);
        Load.words(x, 0, Kinds.word("sw", 0, 6, 7, -4), Kinds.word("lw", 5, 6, 0, -4), Kinds.word("lb", 5, 6, 0, 0));
        x.set(6, SIZE);
        x.set(7, 0x01020304);
        CHECK.due("run(2)", x.run(2), 2);
        CHECK.due("peek(131071)", x.peek(SIZE - 1), 1);
        CHECK.due("get(5)", x.get(5), 0x01020304);
        CHECK.due("step()", x.step(), 3);
        dueState("beyond memory", x, 3, SIZE, 8, 2);
        StepMachine y = Load.machine(Kinds.word("lw", 5, 6, 0, 2047));
        y.set(6, -2047 + 16);
        CHECK.due("an address that wraps", y.step(), 0);
    }

    private static void failuresInTheirOrder() {
        StepMachine x = new StepMachine();
        x.segment(0, 0, 2, 4);
        x.poke(0, 4, -1L);
        CHECK.due("FETCH is ahead of ILLEGAL", x.step(), 1);
        CHECK.due("state(1)", x.state(1), 2);
        x.segment(0, 0, 4, 4);
        x.set(33, 0);
        CHECK.due("ILLEGAL", x.step(), 2);
        CHECK.due("state(1)", x.state(1), 0);
        StepMachine y = Load.machine(Kinds.word("lw", 0, 6, 0, 1));
        CHECK.due("a load into register 0 fails, too", y.step(), 3);
        CHECK.due("state(1)", y.state(1), 1);
    }

    private static void breaks() {
        for (int w : new int[] {Load.ebreak(), 0x9002}) {
            StepMachine x = Load.machine(Load.nop(), w);
            CHECK.due("step()", x.step(), 0);
            CHECK.due("step()", x.step(), 6);
            dueState("break", x, 6, 2, 2, 2);
            CHECK.due("kept", x.state(7), 2);
            CHECK.due("units", x.state(4), 2);
            CHECK.due("step() in an END", x.step(), 6);
            dueState("break", x, 6, 2, 2, 2);
        }
    }

    private static void services() {
        StepMachine x = Load.machine(Load.ecall(), Load.ecall(), Load.ecall(), Load.ecall(), Load.ecall());
        x.input(2, 0xff80L << 48);
        x.set(17, 1);
        x.set(10, 0x12345);
        CHECK.due("PUT: step()", x.step(), 0);
        CHECK.due("PUT: get(10)", x.get(10), 1);
        CHECK.due("PUT: output(0)", x.output(0), 0x45);
        x.set(10, -2);
        x.step();
        CHECK.due("PUT: get(10)", x.get(10), 2);
        CHECK.due("PUT: output(1)", x.output(1), 254);
        x.set(17, 2);
        x.step();
        CHECK.due("GET: get(10)", x.get(10), 255);
        CHECK.due("GET: state(6)", x.state(6), 1);
        x.step();
        CHECK.due("GET: get(10)", x.get(10), 128);
        x.step();
        CHECK.due("GET without a byte: get(10)", x.get(10), -1);
        CHECK.due("GET: state(6)", x.state(6), 0);
        x.set(17, 3);
        x.set(32, 8);
        x.step();
        CHECK.due("CLOCK: get(10)", x.get(10), 5);
        x.step();
        CHECK.due("CLOCK: get(10)", x.get(10), 6);
        CHECK.due("CLOCK: PC", x.get(32), 16);
        for (int service : new int[] {0, 4, 9, 11, -1, 257, Integer.MIN_VALUE}) {
            x.set(33, 0);
            x.set(17, service);
            int steps = x.state(3);
            CHECK.due("service " + service + ": step()", x.step(), 7);
            dueState("service " + service, x, 7, 16, 16, steps + 1);
            CHECK.due("service " + service + ": get(10)", x.get(10), 6);
            CHECK.due("service " + service + ": VALUE", x.state(2), 0);
        }
    }

    private static void outputIsFull() {
        StepMachine x = Load.machine(Load.ecall(), Load.jal(0, -4));
        x.set(17, 1);
        CHECK.due("run(2000)", x.run(2000), 2000);
        CHECK.due("run(1999)", x.run(1999), 1999);
        CHECK.due("state(5)", x.state(5), 2000);
        CHECK.due("get(10)", x.get(10), 2000);
        CHECK.due("output(1999)", x.output(1999), 1999 & 255);
        x.run(2);
        CHECK.due("state(5), no room", x.state(5), 2000);
        CHECK.due("get(10), no room", x.get(10), -1);
        CHECK.due("state(0), no room", x.state(0), 0);
        CHECK.due("output(1999)", x.output(1999), 1999 & 255);
        CHECK.due("output(2000)", x.output(2000), -1);
        CHECK.due("back(3)", x.back(3), 3);
        CHECK.due("state(5)", x.state(5), 1999);
    }

    private static void ends() {
        StepMachine x = Load.machine(Load.ecall());
        x.set(17, 10);
        x.set(10, -5);
        CHECK.due("END: step()", x.step(), 8);
        dueState("END", x, 8, 0, 0, 1);
        CHECK.due("END: VALUE", x.state(2), -5);
        CHECK.due("END: get(10)", x.get(10), -5);
        x.set(33, 0);
        CHECK.due("VALUE stays", x.state(2), -5);
        x.set(17, 99);
        x.step();
        CHECK.due("VALUE stays", x.state(2), -5);
        x.set(33, 0);
        x.set(17, 10);
        x.set(10, 6);
        x.step();
        CHECK.due("VALUE of the latest END", x.state(2), 6);
        CHECK.due("back(1)", x.back(1), 1);
        CHECK.due("VALUE of the one before", x.state(2), -5);
    }

    private static void wildJumps() {
        int[] words = {Load.jal(1, 64), Kinds.word("jalr", 1, 5, 0, 1), Kinds.word("beq", 0, 0, 0, 64),
            Kinds.word("c.j", 0, 0, 0, 64), Kinds.word("c.jal", 0, 0, 0, 64), Kinds.word("c.jr", 0, 5, 0, 0),
            Kinds.word("c.jalr", 0, 5, 0, 0), Kinds.word("c.beqz", 0, 8, 0, 64)};
        for (int w : words) {
            StepMachine x = Load.machine(w);
            x.marking(true);
            x.set(5, 64);
            CHECK.due("a jump to no mark: step()", x.step(), 5);
            dueState("a jump to no mark", x, 5, 64, 64, 1);
            CHECK.due("no unit", x.state(4), 0);
            CHECK.due("step() in an END", x.step(), 5);
            x.back(1);
            dueState("taken back", x, 0, 0, 0, 0);
            x.mark(64, true);
            CHECK.due("a jump to a mark: step()", x.step(), 0);
            dueState("a jump to a mark", x, 0, 0, 64, 1);
        }
        StepMachine x = Load.machine(Load.jal(9, 64));
        x.marking(true);
        x.step();
        CHECK.due("d has come all the same", x.get(9), 4);
        StepMachine y = Load.machine(Kinds.word("jalr", 9, 5, 0, 0));
        y.marking(true);
        y.set(5, SIZE);
        CHECK.due("a jump beyond memory", y.step(), 5);
        dueState("a jump beyond memory", y, 5, SIZE, SIZE, 1);
        StepMachine z = Load.machine(Kinds.word("jalr", 9, 5, 0, 0));
        z.marking(true);
        z.set(5, -1);
        CHECK.due("a jump beyond memory", z.step(), 5);
        dueState("a jump beyond memory", z, 5, -2, -2, 1);
    }

    private static void marksWithoutMarking() {
        StepMachine x = Load.machine(Load.jal(9, 64));
        x.marking(true);
        x.marking(false);
        CHECK.due("MARKING off: step()", x.step(), 0);
        CHECK.due("MARKING off: units", x.state(4), 1);
        StepMachine y = Load.machine(Load.nop(), Load.nop(), Load.nop());
        y.marking(true);
        y.mark(2, true);
        for (int k = 0; k < 3; k++) {
            CHECK.due("step()", y.step(), 0);
        }
        CHECK.due("steps", y.state(3), 3);
        CHECK.due("units", y.state(4), 1);
    }

    private static void branchesNotTakenNeedNoMark() {
        StepMachine x = Load.machine(Kinds.word("bne", 0, 0, 0, 64), Kinds.word("c.bnez", 0, 8, 0, 64));
        x.marking(true);
        CHECK.due("step()", x.step(), 0);
        CHECK.due("step()", x.step(), 0);
        CHECK.due("PC", x.get(32), 6);
    }

    private static void stepFromHalted() {
        StepMachine x = Load.machine(Load.nop(), Load.nop(), Load.ebreak());
        x.halt(2, true);
        x.halt(4, true);
        CHECK.due("run(5)", x.run(5), 1);
        dueState("halted", x, 9, 2, 2, 1);
        CHECK.due("step() from HALTED, to a HALT", x.step(), 0);
        dueState("HALTS do not matter", x, 0, 0, 4, 2);
        CHECK.due("step() at a HALT", x.step(), 6);
        StepMachine y = Load.machine(Load.nop());
        y.halt(2, true);
        y.run(5);
        CHECK.due("a step from HALTED that fails", y.step(), 2);
        dueState("a step from HALTED that fails", y, 2, 2, 2, 1);
        StepMachine z = Load.machine(Load.nop());
        z.halt(2, true);
        z.run(5);
        z.set(33, 0);
        dueState("the state is set", z, 0, 0, 2, 1);
    }

    private static void exampleOfTheReadme() {
        StepMachine x = new StepMachine();
        x.segment(0, 0, 64, 5);
        x.poke(0, 8, 0x1305700273000000L);
        x.set(17, 10);
        CHECK.due("run(100)", x.run(100), 2);
        CHECK.due("state(0)", x.state(0), 8);
        CHECK.due("state(2)", x.state(2), 39);
        CHECK.due("back(1)", x.back(1), 1);
        CHECK.due("state(0)", x.state(0), 0);
    }

    private static void programWritesItself() {
        StepMachine x = Load.machine(Kinds.word("sw", 0, 0, 5, 4), 0);
        x.set(5, Load.li(6, 77));
        CHECK.due("run(2)", x.run(2), 2);
        CHECK.due("the new word", x.get(6), 77);
    }
}
