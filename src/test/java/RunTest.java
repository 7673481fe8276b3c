/** Promise 12: run, with its ENDS, HALTS and UNITS. */
public final class RunTest {

    private static final Check CHECK = new Check("RunTest");
    private static final int SIZE = 131072;

    public static void main(String[] args) {
        refused();
        stopsAtEnds();
        countsUnits();
        unitsAreAskedBeforeTheStep();
        haltsAreAskedFirst();
        endsAreAheadOfHalts();
        firstStepPassesItsHalt();
        haltInALoop();
        unmarkedRowsTakeNoUnits();
        longestRowWithoutUnits();
        stateStaysHalted();
        CHECK.end();
    }

    private static void refused() {
        StepMachine x = Load.machine(Load.nop(), Load.jal(0, -2));
        x.step();
        for (int n : new int[] {-1, 2001, Integer.MIN_VALUE, Integer.MAX_VALUE}) {
            CHECK.due("run(" + n + ")", x.run(n), -1);
        }
        CHECK.due("nothing was done", x.state(3), 1);
        CHECK.due("nothing was forgotten", x.state(7), 1);
        CHECK.due("run(0)", x.run(0), 0);
        CHECK.due("nothing was done", x.state(3), 1);
        CHECK.due("run(2000)", x.run(2000), 2000);
        CHECK.due("state(3)", x.state(3), 2001);
        CHECK.due("state(4)", x.state(4), 2001);
        CHECK.due("state(7)", x.state(7), 100);
    }

    private static void stopsAtEnds() {
        StepMachine x = Load.machine(Load.nop(), Load.ebreak());
        CHECK.due("run(9), a BREAK counts", x.run(9), 2);
        CHECK.due("state(0)", x.state(0), 6);
        CHECK.due("run(9) in an END", x.run(9), 0);
        CHECK.due("state(3)", x.state(3), 2);
        StepMachine y = Load.machine(Load.nop(), 0x0000);
        CHECK.due("run(9), what FAILS does not count", y.run(9), 1);
        CHECK.due("state(0)", y.state(0), 2);
        StepMachine z = Load.machine(Load.nop(), 0x0000);
        CHECK.due("run(1)", z.run(1), 1);
        CHECK.due("the step that would fail was not tried", z.state(0), 0);
        CHECK.due("run(0)", z.run(0), 0);
        CHECK.due("nor was it here", z.state(0), 0);
    }

    private static void countsUnits() {
        StepMachine x = loopOfFour();
        x.mark(0, true);
        x.mark(4, true);
        x.marking(true);
        CHECK.due("run(1)", x.run(1), 1);
        CHECK.due("PC, ahead of the second unit", x.get(32), 4);
        CHECK.due("state(3)", x.state(3), 2);
        CHECK.due("run(3)", x.run(3), 3);
        CHECK.due("PC", x.get(32), 0);
        CHECK.due("state(3)", x.state(3), 8);
        CHECK.due("state(4)", x.state(4), 4);
        CHECK.due("run(0)", x.run(0), 0);
        CHECK.due("state(3)", x.state(3), 8);
        x.marking(false);
        CHECK.due("run(3)", x.run(3), 3);
        CHECK.due("state(3)", x.state(3), 11);
        CHECK.due("state(4)", x.state(4), 7);
    }

    private static StepMachine loopOfFour() {
        return Load.machine(Load.nop(), Load.nop(), Load.nop(), Kinds.word("c.j", 0, 0, 0, -6));
    }

    private static void unitsAreAskedBeforeTheStep() {
        StepMachine x = Load.machine(Load.nop(), Load.nop(), 0x0000);
        x.mark(4, true);
        x.marking(true);
        CHECK.due("run(0) goes through what is not marked", x.run(0), 0);
        CHECK.due("PC", x.get(32), 4);
        CHECK.due("state(0): the marked one was not tried", x.state(0), 0);
        CHECK.due("run(1)", x.run(1), 0);
        CHECK.due("state(0)", x.state(0), 2);
        StepMachine y = Load.machine(Load.nop(), 0x0000);
        y.marking(true);
        CHECK.due("run(0)", y.run(0), 0);
        CHECK.due("state(0): one that is not marked fails", y.state(0), 2);
        CHECK.due("state(3)", y.state(3), 1);
    }

    private static void haltsAreAskedFirst() {
        StepMachine x = Load.machine(Load.nop(), Load.nop(), Load.nop());
        x.halt(2, true);
        CHECK.due("run(1), its last unit comes to a HALT", x.run(1), 1);
        CHECK.due("state(0)", x.state(0), 9);
        CHECK.due("state(1)", x.state(1), 2);
        StepMachine y = Load.machine(Load.nop(), 0x0000);
        y.halt(2, true);
        CHECK.due("run(5), a word of no kind at a HALT", y.run(5), 1);
        CHECK.due("state(0)", y.state(0), 9);
        StepMachine z = Load.machine(Kinds.word("jalr", 0, 5, 0, 0));
        z.set(5, SIZE + 64);
        z.halt(SIZE + 64, true);
        CHECK.due("run(5), a HALT beyond memory", z.run(5), 1);
        CHECK.due("state(0)", z.state(0), 9);
        CHECK.due("state(1)", z.state(1), SIZE + 64);
        CHECK.due("run(5)", z.run(5), 0);
        CHECK.due("state(0)", z.state(0), 1);
    }

    private static void endsAreAheadOfHalts() {
        StepMachine x = Load.machine(Load.ebreak());
        x.halt(0, true);
        CHECK.due("run(5), PC stays at a HALT", x.run(5), 1);
        CHECK.due("state(0)", x.state(0), 6);
        StepMachine y = Load.machine(Load.jal(0, 64));
        y.halt(64, true);
        y.marking(true);
        y.run(5);
        CHECK.due("WILD at a HALT", y.state(0), 5);
    }

    private static void firstStepPassesItsHalt() {
        StepMachine x = loopOfFour();
        x.halt(0, true);
        x.halt(6, true);
        CHECK.due("run(9) from a HALT", x.run(9), 3);
        CHECK.due("PC", x.get(32), 6);
        CHECK.due("state(0)", x.state(0), 9);
        CHECK.due("run(9)", x.run(9), 1);
        CHECK.due("PC", x.get(32), 0);
        CHECK.due("state(1)", x.state(1), 0);
        CHECK.due("state(0)", x.state(0), 9);
        x.halt(6, false);
        CHECK.due("run(9)", x.run(9), 4);
        CHECK.due("state(8)", x.state(8), 1);
    }

    private static void haltInALoop() {
        StepMachine x = Load.machine(Load.jal(0, 0));
        x.halt(0, true);
        CHECK.due("run(9), a jump to itself at a HALT", x.run(9), 1);
        CHECK.due("state(0)", x.state(0), 9);
        StepMachine y = Load.machine(Load.jal(0, 0));
        CHECK.due("run(2000), a jump to itself", y.run(2000), 2000);
        CHECK.due("state(0)", y.state(0), 0);
    }

    private static void unmarkedRowsTakeNoUnits() {
        StepMachine x = Load.machine();
        for (int at = 0; at < 800; at += 8) {
            x.poke(at, 8, 0x0100010001000100L);
        }
        x.marking(true);
        CHECK.due("run(3)", x.run(3), 0);
        CHECK.due("state(0)", x.state(0), 2);
        CHECK.due("state(3)", x.state(3), 400);
        CHECK.due("state(7)", x.state(7), 100);
    }

    /** A program that fills memory with c.nop behind itself, and then runs through it. */
    private static void longestRowWithoutUnits() {
        StepMachine x = new StepMachine();
        x.segment(0, 0, SIZE, 7);
        int behind = Load.words(x, 0, Kinds.word("sw", 0, 5, 6, 0), Load.addi(5, 5, 4),
                Kinds.word("bltu", 0, 5, 7, -8));
        x.set(5, (behind + 3) / 4 * 4);
        x.set(6, 0x00010001);
        x.set(7, SIZE);
        x.mark(0, true);
        x.marking(true);
        int turns = (SIZE - behind) / 4;
        int units = 0;
        for (int k = 0; k < 20 && x.state(0) == 0; k++) {
            units += x.run(2000);
        }
        CHECK.due("units", units, turns);
        CHECK.due("state(0)", x.state(0), 1);
        CHECK.due("state(1)", x.state(1), SIZE);
        CHECK.due("state(3)", x.state(3), 3 * turns + (SIZE - behind) / 2);
        x.set(33, 0);
        x.set(32, behind);
        CHECK.due("run(0) through all that is not marked", x.run(0), 0);
        CHECK.due("state(1)", x.state(1), SIZE);
        CHECK.due("state(3)", x.state(3), 3 * turns + (SIZE - behind));
        longRowsInALoop(x, behind);
    }

    private static void longRowsInALoop(StepMachine x, int behind) {
        Load.words(x, SIZE - 4, Kinds.word("jalr", 0, 0, 0, behind));
        x.mark(behind, true);
        x.set(33, 0);
        x.set(32, behind);
        int ahead = x.state(3);
        int turn = (SIZE - 4 - behind) / 2 + 1;
        CHECK.due("run(30)", x.run(30), 30);
        CHECK.due("state(0)", x.state(0), 0);
        CHECK.due("state(3)", x.state(3) - ahead, 30L * turn);
    }

    private static void stateStaysHalted() {
        StepMachine x = Load.machine(Load.nop(), Load.nop());
        x.halt(2, true);
        x.run(3);
        CHECK.due("run(0) makes no step", x.run(0), 0);
        CHECK.due("state(0)", x.state(0), 9);
        CHECK.due("state(1)", x.state(1), 2);
        CHECK.due("halt(2, false)", x.halt(2, false), true);
        CHECK.due("state(0)", x.state(0), 9);
        CHECK.due("run(1)", x.run(1), 1);
        CHECK.due("state(0)", x.state(0), 0);
        CHECK.due("state(1)", x.state(1), 0);
    }
}
