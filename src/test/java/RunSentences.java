/** Promises 11 to 16: a step, a run, steps taken back, and the calls that ask. */
final class RunSentences {

    private static final int MIN = Integer.MIN_VALUE;
    private static final int MAX = Integer.MAX_VALUE;
    private static final int SIZE = 131072;

    private final Sentences s;

    RunSentences(Sentences s) {
        this.s = s;
    }

    void all() {
        stepFromHalted();
        haltsDoNotMatterToAStep();
        stepTellsTheState();
        stepInAnEnd();
        runUntilAnEnd();
        runUntilAHalt();
        haltIsAskedFirst();
        runUntilAUnitAboveN();
        unitsBeginAtMarks();
        unitsOfThisCall();
        haltedUntilAStep();
        rowsWithoutMarksTakeNone();
        longestRowWithoutMarks();
        runRefused();
        lastKeptStepsAreUndone();
        latestFirst();
        backBelowOne();
        stateAndCulprit();
        valueOfTheLatestEnd();
        stepsAndUnits();
        bytesOfOutput();
        bytesOfInput();
        keptSteps();
        halts();
        otherQuestions();
        staysWhenTheStateIsSet();
        byteOfOutput();
        noByteOfOutput();
        rightsOfAnAddress();
        rightsOfMarks();
    }

    private static StepMachine haltedAtTwo(int w) {
        StepMachine x = Load.machine(Load.nop(), w);
        x.halt(2, true);
        x.run(5);
        return x;
    }

    private void stepFromHalted() {
        s.says("Promise 11", "One STEP (from STATE 9, too, which is 0 then, unless the step says otherwise;");
        StepMachine x = haltedAtTwo(Load.nop());
        s.dueState("HALTED", x, 9, 2, 2, 1);
        s.due("step()", x.step(), 0);
        s.dueState("a step from there", x, 0, 0, 4, 2);
        int[][] rows = {{0x0000, 2, 2}, {Kinds.word("lw", 5, 0, 0, 1), 3, 1}, {Kinds.word("sw", 0, 0, 5, 2), 4, 2},
            {Load.ebreak(), 6, 2}, {Load.ecall(), 7, 2}};
        for (int[] row : rows) {
            StepMachine y = haltedAtTwo(row[0]);
            s.due("step() from STATE 9", y.step(), row[1]);
            s.dueState("a step from STATE 9", y, row[1], row[2], 2, row[1] < 5 ? 1 : 2);
        }
    }

    private void haltsDoNotMatterToAStep() {
        s.says("Promise 11", "HALTS do not matter):");
        StepMachine x = Load.machine(Load.nop(), Load.nop(), Load.nop());
        x.halt(0, true);
        x.halt(2, true);
        x.halt(4, true);
        for (int k = 1; k <= 3; k++) {
            s.due("step()", x.step(), 0);
            s.dueState("step " + k, x, 0, 0, 2 * k, k);
        }
    }

    private void stepTellsTheState() {
        s.says("Promise 11", "the STATE;");
        StepMachine x = Load.machine(Load.nop(), Load.ebreak());
        s.due("step()", x.step(), 0);
        s.due("step()", x.step(), 6);
        s.due("state(0)", x.state(0), 6);
    }

    private void stepInAnEnd() {
        s.says("Promise 11", "nothing is done in an END.");
        StepMachine x = Load.machine(Load.ebreak());
        x.step();
        x.poke(0, 4, 0x93821200L << 32);
        s.due("step()", x.step(), 6);
        s.dueState("in an END", x, 6, 0, 0, 1);
        s.due("get(5)", x.get(5), 0);
        s.due("state(7)", x.state(7), 0);
    }

    private void runUntilAnEnd() {
        s.says("Promise 12", "STEPS until the STATE is an END,");
        int[][] rows = {{0x0000, 0, 2, 1}, {Kinds.word("lw", 0, 0, 0, 2), 0, 3, 1}, {Kinds.word("sw", 0, 0, 0, 2), 0, 4, 1},
            {Load.ebreak(), 0, 6, 2}, {Load.ecall(), 0, 7, 2}, {Load.ecall(), 10, 8, 2}};
        for (int[] row : rows) {
            StepMachine x = Load.machine(Load.nop(), row[0], Load.nop());
            x.set(17, row[1]);
            s.due("run(2000)", x.run(2000), row[3]);
            s.due("state(0)", x.state(0), row[2]);
            s.due("run(2000) in an END", x.run(2000), 0);
            s.due("state(3)", x.state(3), row[3]);
        }
        StepMachine x = new StepMachine();
        x.segment(0, 0, 2, 4);
        Load.words(x, 0, Load.nop());
        s.due("run(2000), to FETCH", x.run(2000), 1);
        s.due("state(0)", x.state(0), 1);
        StepMachine y = Load.machine(Load.jal(0, 64));
        y.mark(0, true);
        y.marking(true);
        s.due("run(2000), to WILD", y.run(2000), 1);
        s.due("state(0)", y.state(0), 5);
    }

    private void runUntilAHalt() {
        s.says("Promise 12", "or PC is a HALT ahead of one that isn't the first of this call");
        StepMachine x = Load.machine(Load.nop(), Load.nop(), Load.nop(), Kinds.word("c.j", 0, 0, 0, -6));
        x.halt(0, true);
        x.halt(6, true);
        s.due("run(9) from a HALT", x.run(9), 3);
        s.dueState("the next HALT", x, 9, 6, 6, 3);
        s.due("run(9)", x.run(9), 1);
        s.dueState("the HALT at 0", x, 9, 0, 0, 4);
        x.halt(6, false);
        s.due("run(9), round to the same HALT", x.run(9), 4);
        s.dueState("the HALT at 0", x, 9, 0, 0, 8);
        StepMachine y = Load.machine(Load.jal(0, 0));
        y.halt(0, true);
        s.due("run(9), a jump to itself", y.run(9), 1);
        s.dueState("a jump to itself", y, 9, 0, 0, 1);
    }

    private void haltIsAskedFirst() {
        s.says("Promise 12", "(STATE 9; this is asked first),");
        StepMachine x = Load.machine(Load.nop(), Load.nop());
        x.halt(2, true);
        s.due("run(1), its last unit comes to a HALT", x.run(1), 1);
        s.dueState("run(1)", x, 9, 2, 2, 1);
        StepMachine y = Load.machine(Load.nop(), 0x0000);
        y.halt(2, true);
        s.due("run(5), a word of no kind at a HALT", y.run(5), 1);
        s.dueState("run(5)", y, 9, 2, 2, 1);
        StepMachine z = Load.machine(Kinds.word("jalr", 0, 5, 0, 0));
        z.set(5, SIZE);
        z.halt(SIZE, true);
        s.due("run(5), a HALT beyond memory", z.run(5), 1);
        s.dueState("beyond memory", z, 9, SIZE, SIZE, 1);
        s.due("run(5) from there", z.run(5), 0);
        s.dueState("from there", z, 1, SIZE, SIZE, 1);
        endsAtAHaltStay();
    }

    /** In an END nothing more is done, so it is ahead of no step that a HALT could be asked for. */
    private void endsAtAHaltStay() {
        int[][] rows = {{0x0000, 0, 2}, {Kinds.word("lw", 0, 0, 0, 6), 0, 3}, {Kinds.word("sw", 0, 0, 0, 6), 0, 4},
            {Load.jal(0, 0), 0, 5}, {Load.ebreak(), 0, 6}, {Load.ecall(), 0, 7}, {Load.ecall(), 10, 8}, {-1, 0, 1}};
        for (int[] row : rows) {
            StepMachine x = Load.machine(Load.nop(), Load.nop(), row[0]);
            x.segment(0, 0, row[2] == 1 ? 4 : 4096, 7);
            x.set(17, row[1]);
            x.marking(true);
            x.halt(4, true);
            s.due("run(5) to the HALT", x.run(5), 0);
            s.dueState("HALTED", x, 9, 4, 4, 2);
            int steps = row[2] < 5 ? 2 : 3;
            int culprit = row[2] == 3 || row[2] == 4 ? 6 : 4;
            for (int k = 0; k < 2; k++) {
                s.due("run(5) from the HALT", x.run(5), 0);
                s.dueState("an END at a HALT", x, row[2], culprit, 4, steps);
            }
        }
    }

    private void runUntilAUnitAboveN() {
        s.says("Promise 12", "or the next one, did it count, would be a UNIT above n.");
        StepMachine x = Load.machine(Load.nop(), 0x0000);
        s.due("run(0)", x.run(0), 0);
        s.dueState("run(0)", x, 0, 0, 0, 0);
        s.due("run(1)", x.run(1), 1);
        s.dueState("the one that would fail is not tried", x, 0, 0, 2, 1);
        s.due("run(0)", x.run(0), 0);
        s.dueState("nor here", x, 0, 0, 2, 1);
        s.due("run(1)", x.run(1), 0);
        s.dueState("but here", x, 2, 2, 2, 1);
        StepMachine y = Load.machine(Load.nop(), Load.nop(), 0x0000);
        y.mark(4, true);
        y.marking(true);
        s.due("run(0), through what is not marked", y.run(0), 0);
        s.dueState("ahead of what is", y, 0, 0, 4, 2);
        StepMachine z = Load.machine(Load.nop(), Load.nop(), 0x0000);
        z.mark(0, true);
        z.marking(true);
        s.due("run(1), on through what is not marked", z.run(1), 1);
        s.dueState("to what fails", z, 2, 4, 4, 2);
    }

    private void unitsBeginAtMarks() {
        s.says("Promise 12", "UNITS are STEPS that begin at a marked address (all that count, with MARKING off).");
        StepMachine x = Load.machine(Load.nop(), Load.nop(), Load.nop(), Kinds.word("c.j", 0, 0, 0, -6));
        x.mark(0, true);
        x.mark(4, true);
        s.due("off: run(4)", x.run(4), 4);
        s.due("state(4)", x.state(4), 4);
        x.marking(true);
        s.due("on: run(1)", x.run(1), 1);
        s.dueState("ahead of the second mark", x, 0, 0, 4, 6);
        s.due("run(3)", x.run(3), 3);
        s.dueState("ahead of the fifth unit", x, 0, 0, 0, 12);
        s.due("state(4)", x.state(4), 8);
        x.step();
        x.step();
        x.step();
        s.due("three steps, two of them units: state(4)", x.state(4), 10);
        StepMachine y = Load.machine(Load.jal(0, 64));
        y.mark(64, true);
        y.marking(true);
        y.step();
        s.due("a jump to a mark, from none: state(4)", y.state(4), 0);
    }

    private void unitsOfThisCall() {
        s.says("Promise 12", "How many UNITS this call took.");
        StepMachine x = Load.machine(Load.jal(0, 0));
        s.due("run(0)", x.run(0), 0);
        s.due("run(1)", x.run(1), 1);
        s.due("run(1999)", x.run(1999), 1999);
        s.due("run(2000)", x.run(2000), 2000);
        s.due("state(4)", x.state(4), 4000);
        x.mark(0, true);
        x.marking(true);
        s.due("run(2000) of marked ones", x.run(2000), 2000);
        s.due("state(4)", x.state(4), 6000);
    }

    private void haltedUntilAStep() {
        s.says("Promise 12", "(The STATE stays 9 until a step is made.");
        StepMachine x = haltedAtTwo(Load.nop());
        s.due("run(0)", x.run(0), 0);
        s.dueState("run(0)", x, 9, 2, 2, 1);
        s.due("halt(2, false)", x.halt(2, false), true);
        s.dueState("no HALT any more", x, 9, 2, 2, 1);
        x.poke(64, 1, 0L);
        x.marking(false);
        x.set(5, 1);
        s.dueState("other calls", x, 9, 2, 2, 1);
        s.due("run(1)", x.run(1), 1);
        s.dueState("a step is made", x, 0, 0, 4, 2);
        StepMachine y = haltedAtTwo(Load.nop());
        y.mark(4, true);
        y.marking(true);
        s.due("run(0) that makes a step", y.run(0), 0);
        s.dueState("run(0)", y, 0, 0, 4, 2);
    }

    private void rowsWithoutMarksTakeNone() {
        s.says("Promise 12", "With MARKING on a row of instructions that are not marked takes none.)");
        StepMachine x = Load.machine();
        for (int at = 0; at < 800; at += 8) {
            x.poke(at, 8, 0x0100010001000100L);
        }
        x.marking(true);
        s.due("run(3)", x.run(3), 0);
        s.dueState("to the end of the row", x, 2, 800, 800, 400);
        s.due("state(4)", x.state(4), 0);
        s.due("state(7)", x.state(7), 100);
        x.set(33, 0);
        x.set(32, 0);
        s.due("run(0)", x.run(0), 0);
        s.dueState("to the end of the row", x, 2, 800, 800, 800);
    }

    /** A program that fills memory with c.nop behind itself, and then runs through it. */
    private void longestRowWithoutMarks() {
        StepMachine x = new StepMachine();
        x.segment(0, 0, SIZE, 7);
        int behind = Load.words(x, 0, Kinds.word("sw", 0, 5, 6, 0), Load.addi(5, 5, 4), Kinds.word("bltu", 0, 5, 7, -8));
        x.set(5, behind);
        x.set(6, 0x00010001);
        x.set(7, SIZE);
        x.mark(0, true);
        x.marking(true);
        int turns = (SIZE - behind) / 4;
        int units = 0;
        for (int k = 0; k < 20 && x.state(0) == 0; k++) {
            units += x.run(2000);
        }
        s.due("units", units, turns);
        s.dueState("to the end of memory", x, 1, SIZE, SIZE, 3 * turns + (SIZE - behind) / 2);
        x.poke(0, 8, 0x0100010001000100L);
        x.poke(8, 4, 0x01000100L << 32);
        x.mark(0, false);
        x.set(33, 0);
        x.set(32, 0);
        int ahead = x.state(3);
        s.due("run(0) through all of memory", x.run(0), 0);
        s.dueState("through all of memory", x, 1, SIZE, SIZE, ahead + SIZE / 2);
        longRowsInALoop(x);
    }

    private void longRowsInALoop(StepMachine x) {
        Load.words(x, SIZE - 4, Kinds.word("jalr", 0, 0, 0, 2));
        x.mark(2, true);
        x.set(33, 0);
        x.set(32, 0);
        int ahead = x.state(3);
        int turn = (SIZE - 4 - 2) / 2 + 1;
        s.due("run(30), each unit with all of memory behind it", x.run(30), 30);
        s.due("state(0)", x.state(0), 0);
        s.due("state(3)", x.state(3) - ahead, 30L * turn + 1);
    }

    private void runRefused() {
        s.says("Promise 12", "NONE, refused, when n isn't 0 .. 2000.");
        StepMachine x = Load.machine(Load.jal(0, 0));
        x.step();
        for (int n : new int[] {-1, 2001, 4000, MIN, MAX}) {
            s.due("run(" + n + ")", x.run(n), -1);
            s.dueState("run(" + n + ")", x, 0, 0, 0, 1);
            s.due("state(7)", x.state(7), 1);
        }
        s.due("run(0)", x.run(0), 0);
        s.due("run(2000)", x.run(2000), 2000);
        StepMachine y = Load.machine(Load.ebreak());
        y.step();
        s.due("run(-1) in an END", y.run(-1), -1);
        s.due("run(2001) in an END", y.run(2001), -1);
        s.due("run(0) in an END", y.run(0), 0);
    }

    private static StepMachine counting(int steps) {
        StepMachine x = Load.machine(Load.addi(5, 5, 1), Load.jal(0, -4));
        x.run(steps);
        return x;
    }

    private void lastKeptStepsAreUndone() {
        s.says("Promise 13", "The last n KEPT steps, or as many as there are, are undone,");
        for (int n : new int[] {1, 2, 9, 10, 11, 100, 101, MAX}) {
            StepMachine x = counting(10);
            int undone = Math.min(n, 10);
            s.due("back(" + n + ")", x.back(n), undone);
            s.due("get(5)", x.get(5), (10 - undone + 1) / 2);
            s.due("get(32)", x.get(32), undone % 2 * 4);
            s.due("state(3)", x.state(3), 10 - undone);
            s.due("state(7)", x.state(7), 10 - undone);
        }
        for (int n : new int[] {99, 100, 101, MAX}) {
            StepMachine x = counting(300);
            int undone = Math.min(n, 100);
            s.due("back(" + n + ") of 300", x.back(n), undone);
            s.due("state(3)", x.state(3), 300 - undone);
            s.due("back(1)", x.back(1), 100 - undone);
        }
    }

    private void latestFirst() {
        s.says("Promise 13", "the latest first:");
        StepMachine x = Load.machine(Kinds.word("sw", 0, 0, 5, 512), Kinds.word("sw", 0, 0, 6, 512), Load.li(5, 3), Load.li(5, 4));
        x.set(5, 1);
        x.set(6, 2);
        x.run(4);
        s.due("back(1)", x.back(1), 1);
        s.due("get(5)", x.get(5), 3);
        s.due("back(2)", x.back(2), 2);
        s.due("get(5)", x.get(5), 1);
        s.due("peek(512)", x.peek(512), 1);
        s.due("back(2)", x.back(2), 1);
        s.due("peek(512)", x.peek(512), 0);
        StepMachine y = Load.machine(Load.li(5, 3), Load.li(5, 4), Kinds.word("sw", 0, 0, 5, 512), Kinds.word("sw", 0, 0, 0, 512));
        y.set(5, 1);
        y.run(4);
        s.due("back(4)", y.back(4), 4);
        s.due("get(5)", y.get(5), 1);
        s.due("peek(512)", y.peek(512), 0);
    }

    private void backBelowOne() {
        s.says("Promise 13", "how many (0 for n below 1).");
        StepMachine x = counting(3);
        for (int n : new int[] {0, -1, -3, MIN}) {
            s.due("back(" + n + ")", x.back(n), 0);
            s.due("state(3)", x.state(3), 3);
            s.due("state(7)", x.state(7), 3);
        }
        s.due("back(5)", x.back(5), 3);
        s.due("back(5), none left", x.back(5), 0);
    }

    private void stateAndCulprit() {
        s.says("Promise 14", "0 the STATE, 1 the CULPRIT (0 in STATE 0),");
        StepMachine x = Load.machine(Load.nop(), Load.nop(), Load.ebreak());
        x.step();
        s.due("state(0)", x.state(0), 0);
        s.due("state(1) in STATE 0", x.state(1), 0);
        x.halt(4, true);
        x.run(5);
        s.due("state(0)", x.state(0), 9);
        s.due("state(1) in STATE 9", x.state(1), 4);
        x.step();
        s.due("state(0)", x.state(0), 6);
        s.due("state(1) in STATE 6", x.state(1), 4);
        x.set(33, 0);
        s.due("state(0)", x.state(0), 0);
        s.due("state(1) in STATE 0", x.state(1), 0);
    }

    private void valueOfTheLatestEnd() {
        s.says("Promise 14", "2 the VALUE of the latest END by a service (0 before),");
        StepMachine x = Load.machine(Load.ecall(), Load.ebreak());
        x.set(10, 41);
        s.due("state(2) before", x.state(2), 0);
        x.step();
        s.due("no such SERVICE: state(2)", x.state(2), 0);
        x.set(33, 0);
        x.set(17, 10);
        x.step();
        s.due("END: state(2)", x.state(2), 41);
        x.set(33, 0);
        x.set(10, -42);
        s.due("state(2), register 10 is set", x.state(2), 41);
        x.set(32, 4);
        x.step();
        s.due("BREAK: state(2)", x.state(2), 41);
        x.set(33, 0);
        x.set(32, 0);
        x.step();
        s.due("END again: state(2)", x.state(2), -42);
    }

    private void stepsAndUnits() {
        s.says("Promise 14", "3 STEPS, 4 UNITS (both since the beginning),");
        StepMachine x = counting(2000);
        s.due("state(3)", x.state(3), 2000);
        x.run(2000);
        x.step();
        s.due("state(3)", x.state(3), 4001);
        s.due("state(4)", x.state(4), 4001);
        x.marking(true);
        x.mark(0, true);
        x.run(2);
        s.due("state(3), with marks", x.state(3), 4006);
        s.due("state(4), with marks", x.state(4), 4003);
    }

    private void bytesOfOutput() {
        s.says("Promise 14", "5 bytes of OUTPUT,");
        StepMachine x = Load.machine(Load.ecall(), Load.jal(0, -4));
        x.set(17, 1);
        for (int k = 0; k < 5; k++) {
            s.due("state(5)", x.state(5), k);
            x.run(2);
        }
        s.due("back(4)", x.back(4), 4);
        s.due("state(5)", x.state(5), 3);
    }

    private void bytesOfInput() {
        s.says("Promise 14", "6 bytes of INPUT that were not taken,");
        StepMachine x = Load.machine(Load.ecall(), Load.jal(0, -4));
        x.set(17, 2);
        x.input(3, 0L);
        for (int left : new int[] {3, 2, 1, 0, 0}) {
            s.due("state(6)", x.state(6), left);
            x.run(2);
        }
        x.input(8, 0L);
        s.due("state(6)", x.state(6), 8);
    }

    private void keptSteps() {
        s.says("Promise 14", "7 steps that are KEPT,");
        for (int steps : new int[] {0, 1, 99, 100, 101, 2000}) {
            StepMachine x = counting(steps);
            s.due("state(7) of " + steps, x.state(7), Math.min(steps, 100));
        }
        StepMachine x = counting(5);
        x.back(2);
        s.due("state(7)", x.state(7), 3);
        x.step();
        s.due("state(7)", x.state(7), 4);
        x.set(5, 0);
        s.due("state(7)", x.state(7), 0);
    }

    private void halts() {
        s.says("Promise 14", "8 HALTS.");
        StepMachine x = new StepMachine();
        for (int k = 0; k < 8; k++) {
            s.due("state(8)", x.state(8), k);
            x.halt(2 * k, true);
        }
        x.halt(16, true);
        s.due("state(8)", x.state(8), 8);
        x.halt(0, false);
        s.due("state(8)", x.state(8), 7);
    }

    private void otherQuestions() {
        s.says("Promise 14", "NONE for others.");
        StepMachine x = counting(3);
        for (int what : new int[] {-1, 9, 10, MIN, MAX}) {
            s.due("state(" + what + ")", x.state(what), -1);
        }
    }

    /** Not 7: a set that is not refused forgets the kept steps, as the terms say. */
    private void staysWhenTheStateIsSet() {
        s.says("Promise 14", "(2 to 8 stay when the STATE is set.)");
        StepMachine x = Load.machine(Load.ecall(), Load.jal(0, -4));
        x.input(3, 0L);
        x.halt(64, true);
        x.set(17, 1);
        x.run(2);
        x.set(17, 2);
        x.run(2);
        x.set(17, 10);
        x.set(10, 42);
        x.run(9);
        int[] want = {8, 0, 42, 5, 5, 1, 2, 1, 1};
        for (int what = 0; what <= 8; what++) {
            s.due("state(" + what + ")", x.state(what), want[what]);
        }
        s.due("set(33, 0)", x.set(33, 0), true);
        s.due("state(0)", x.state(0), 0);
        for (int what : new int[] {2, 3, 4, 5, 6, 8}) {
            s.due("state(" + what + "), the state is set", x.state(what), want[what]);
        }
    }

    private void byteOfOutput() {
        s.says("Promise 15", "Byte k of OUTPUT;");
        StepMachine x = Load.machine(Load.ecall(), Load.addi(10, 5, 0), Load.jal(0, -8));
        x.set(17, 1);
        x.set(10, 0);
        x.set(5, 128);
        x.run(3);
        x.set(5, 255);
        x.run(3);
        x.run(1);
        int[] want = {0, 128, 255};
        for (int k = 0; k < 3; k++) {
            s.due("output(" + k + ")", x.output(k), want[k]);
        }
    }

    private void noByteOfOutput() {
        s.says("Promise 15", "NONE when there is none.");
        StepMachine x = Load.machine(Load.ecall(), Load.jal(0, -4));
        s.due("output(0)", x.output(0), -1);
        x.set(17, 1);
        x.run(1);
        s.due("output(0)", x.output(0), 0);
        for (int k : new int[] {1, 2, 1999, 2000, -1, MIN, MAX}) {
            s.due("output(" + k + ")", x.output(k), -1);
        }
        x.run(2000);
        x.run(2000);
        s.due("output(1999), all the room", x.output(1999), 1999 & 255);
        s.due("output(2000)", x.output(2000), -1);
    }

    private void rightsOfAnAddress() {
        s.says("Promise 16", "The RIGHTS of an address (0 beyond memory),");
        StepMachine x = new StepMachine();
        for (int rights = 0; rights < 8; rights++) {
            x.segment(0, 0, SIZE, rights);
            s.due("rights(0)", x.rights(0), rights);
            s.due("rights(1)", x.rights(1), rights);
            s.due("rights(131071)", x.rights(SIZE - 1), rights);
            for (int at : new int[] {-1, -2, SIZE, SIZE + 1, MIN, MAX}) {
                s.due("rights(" + at + ")", x.rights(at), 0);
            }
        }
    }

    private void rightsOfMarks() {
        s.says("Promise 16", "and 8 more if it is marked.");
        StepMachine x = new StepMachine();
        x.segment(0, 0, 8, 7);
        for (int at : new int[] {0, 6, 8, SIZE - 2}) {
            int plain = at < 8 ? 7 : 0;
            x.mark(at, true);
            s.due("rights(" + at + ")", x.rights(at), plain + 8);
            s.due("rights(" + (at + 1) + ")", x.rights(at + 1), plain);
        }
        s.due("rights(4)", x.rights(4), 7);
        s.due("rights(131072)", x.rights(SIZE), 0);
        x.marking(true);
        s.due("rights(0), MARKING on", x.rights(0), 15);
        x.mark(0, false);
        s.due("rights(0)", x.rights(0), 7);
    }
}
