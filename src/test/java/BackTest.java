/** Promise 13: steps that are taken back, how many are kept, and which calls forget them. */
public final class BackTest {

    private static final Check CHECK = new Check("BackTest");

    public static void main(String[] args) {
        undoesEachChange();
        undoesServices();
        goesBackToCountsAboveZero();
        undoesEnds();
        afterWhatFailed();
        haltedStates();
        keepsTheLastHundred();
        stepsAgainAfterBack();
        wrongNumbers();
        forgetting();
        refusedAndAskingCallsForgetNothing();
        CHECK.end();
    }

    private static void undoesEachChange() {
        for (String store : new String[] {"sb", "sh", "sw"}) {
            StepMachine x = Load.machine(Kinds.word(store, 0, 0, 5, 512), Kinds.word("lw", 5, 0, 0, 512), Load.jal(6, 8));
            x.poke(512, 8, 0x1122334455667788L);
            x.set(5, -1);
            x.set(6, 66);
            CHECK.due("run(3)", x.run(3), 3);
            CHECK.due("back(1)", x.back(1), 1);
            CHECK.due("get(6)", x.get(6), 66);
            CHECK.due("get(32)", x.get(32), 8);
            CHECK.due("back(1)", x.back(1), 1);
            CHECK.due("get(5)", x.get(5), -1);
            CHECK.due("peek(512)", x.peek(512), 255);
            CHECK.due("back(1)", x.back(1), 1);
            for (int k = 0; k < 8; k++) {
                CHECK.due("peek", x.peek(512 + k), 0x11 * (k + 1));
            }
            CHECK.due("state(3)", x.state(3), 0);
            CHECK.due("state(4)", x.state(4), 0);
            CHECK.due("back(1)", x.back(1), 0);
        }
    }

    private static void undoesServices() {
        StepMachine x = Load.machine(Load.li(17, 1), Load.ecall(), Load.li(17, 2), Load.ecall(), Load.li(17, 3), Load.ecall());
        x.set(10, 200);
        x.input(2, 0x0708L << 48);
        CHECK.due("run(6)", x.run(6), 6);
        CHECK.due("get(10)", x.get(10), 5);
        CHECK.due("back(1)", x.back(1), 1);
        CHECK.due("get(10)", x.get(10), 7);
        CHECK.due("back(2)", x.back(2), 2);
        CHECK.due("get(10)", x.get(10), 1);
        CHECK.due("state(6)", x.state(6), 2);
        CHECK.due("output(0)", x.output(0), 200);
        CHECK.due("back(2)", x.back(2), 2);
        CHECK.due("get(10)", x.get(10), 200);
        CHECK.due("state(5)", x.state(5), 0);
        CHECK.due("output(0)", x.output(0), -1);
        CHECK.due("get(17)", x.get(17), 1);
        CHECK.due("run(5)", x.run(5), 5);
        CHECK.due("the same again", x.get(10), 5);
        CHECK.due("output(0)", x.output(0), 200);
    }

    /** As marks change what is a unit, units are not told by steps. */
    private static void goesBackToCountsAboveZero() {
        StepMachine x = Load.machine(Load.ecall(), Load.nop(), Load.jal(0, -6));
        x.set(17, 2);
        x.input(8, 0x0102030405060708L);
        x.mark(0, true);
        x.marking(true);
        CHECK.due("run(5)", x.run(5), 5);
        CHECK.due("state(3)", x.state(3), 15);
        int[] units = {5, 5, 5, 4, 4, 4, 3, 3, 3, 2, 2, 2, 1, 1, 1, 0};
        int[] left = {3, 3, 3, 4, 4, 4, 5, 5, 5, 6, 6, 6, 7, 7, 7, 8};
        for (int k = 0; k < 15; k++) {
            CHECK.due("state(4), " + k + " undone", x.state(4), units[k]);
            CHECK.due("state(6), " + k + " undone", x.state(6), left[k]);
            CHECK.due("state(3), " + k + " undone", x.state(3), 15 - k);
            CHECK.due("back(1)", x.back(1), 1);
        }
        CHECK.due("state(4)", x.state(4), 0);
        CHECK.due("state(6)", x.state(6), 8);
        CHECK.due("run(2)", x.run(2), 2);
        CHECK.due("get(10)", x.get(10), 2);
    }

    private static void undoesEnds() {
        int[][] rows = {{Load.ebreak(), 0, 6}, {0x9002, 0, 6}, {Load.ecall(), 77, 7}, {Load.ecall(), 10, 8}};
        for (int[] row : rows) {
            StepMachine x = Load.machine(Load.nop(), row[0]);
            x.set(17, row[1]);
            x.set(10, 31);
            CHECK.due("run(5)", x.run(5), 2);
            CHECK.due("state(0)", x.state(0), row[2]);
            CHECK.due("back(1)", x.back(1), 1);
            CHECK.due("state(0)", x.state(0), 0);
            CHECK.due("state(1)", x.state(1), 0);
            CHECK.due("state(2)", x.state(2), 0);
            CHECK.due("state(3)", x.state(3), 1);
            CHECK.due("get(10)", x.get(10), 31);
            CHECK.due("step()", x.step(), row[2]);
        }
    }

    /** What fails is not kept: the step ahead of it is undone, with the state ahead of that. */
    private static void afterWhatFailed() {
        StepMachine x = Load.machine(Load.li(5, 9), 0x0000);
        CHECK.due("run(5)", x.run(5), 1);
        CHECK.due("state(0)", x.state(0), 2);
        CHECK.due("state(7)", x.state(7), 1);
        CHECK.due("back(1)", x.back(1), 1);
        CHECK.due("state(0)", x.state(0), 0);
        CHECK.due("state(1)", x.state(1), 0);
        CHECK.due("get(5)", x.get(5), 0);
        StepMachine y = Load.machine(0x0000);
        CHECK.due("step()", y.step(), 2);
        CHECK.due("back(1), none is kept", y.back(1), 0);
        CHECK.due("state(0)", y.state(0), 2);
    }

    private static void haltedStates() {
        StepMachine x = Load.machine(Load.nop(), Load.nop(), Load.nop());
        x.halt(2, true);
        x.run(9);
        x.step();
        CHECK.due("state(0)", x.state(0), 0);
        CHECK.due("back(1)", x.back(1), 1);
        CHECK.due("HALTED as ahead of the step", x.state(0), 9);
        CHECK.due("state(1)", x.state(1), 2);
        CHECK.due("back(1)", x.back(1), 1);
        CHECK.due("state(0)", x.state(0), 0);
        CHECK.due("state(1)", x.state(1), 0);
        CHECK.due("get(32)", x.get(32), 0);
    }

    private static void keepsTheLastHundred() {
        for (int steps : new int[] {99, 100, 101, 102, 250}) {
            StepMachine x = Load.machine(Load.addi(5, 5, 1), Load.jal(0, -4));
            CHECK.due("run", x.run(steps), steps);
            int kept = Math.min(steps, 100);
            CHECK.due("state(7)", x.state(7), kept);
            CHECK.due("back(60)", x.back(60), 60);
            CHECK.due("state(7)", x.state(7), kept - 60);
            CHECK.due("get(5)", x.get(5), (steps - 60 + 1) / 2);
            CHECK.due("back(MAX)", x.back(Integer.MAX_VALUE), kept - 60);
            CHECK.due("get(5)", x.get(5), (steps - kept + 1) / 2);
            CHECK.due("state(3)", x.state(3), steps - kept);
            CHECK.due("state(7)", x.state(7), 0);
        }
    }

    private static void stepsAgainAfterBack() {
        StepMachine x = Load.machine(Load.addi(5, 5, 1), Load.jal(0, -4));
        x.run(150);
        x.back(30);
        CHECK.due("run(50)", x.run(50), 50);
        CHECK.due("state(7)", x.state(7), 100);
        CHECK.due("state(3)", x.state(3), 170);
        CHECK.due("back(200)", x.back(200), 100);
        CHECK.due("state(3)", x.state(3), 70);
        CHECK.due("get(5)", x.get(5), 35);
        CHECK.due("step()", x.step(), 0);
        CHECK.due("state(7)", x.state(7), 1);
    }

    private static void wrongNumbers() {
        StepMachine x = Load.machine(Load.nop(), Load.nop());
        x.run(2);
        for (int n : new int[] {0, -1, Integer.MIN_VALUE}) {
            CHECK.due("back(" + n + ")", x.back(n), 0);
            CHECK.due("state(7)", x.state(7), 2);
        }
        CHECK.due("back(3)", x.back(3), 2);
    }

    private static StepMachine stepped() {
        StepMachine x = Load.machine(Load.li(5, 1), Load.li(6, 1), Load.li(7, 1));
        x.halt(64, true);
        x.run(3);
        CHECK.due("state(7)", x.state(7), 3);
        return x;
    }

    private static void dueForgotten(String call, StepMachine x) {
        CHECK.due(call + ": state(7)", x.state(7), 0);
        CHECK.due(call + ": back(3)", x.back(3), 0);
        CHECK.due(call + ": state(3)", x.state(3), 3);
    }

    private static void forgetting() {
        for (int call = 0; call < 12; call++) {
            StepMachine x = stepped();
            boolean isDone = true;
            switch (call) {
                case 0: isDone = x.segment(7, 0, 0, 0); break;
                case 1: isDone = x.mark(0, true); break;
                case 2: isDone = x.mark(0, false); break;
                case 3: x.marking(false); break;
                case 4: x.marking(true); break;
                case 5: isDone = x.poke(2000, 1, 0L); break;
                case 6: isDone = x.set(5, 1); break;
                case 7: isDone = x.set(32, 12); break;
                case 8: isDone = x.set(33, 0); break;
                case 9: isDone = x.input(1, 0L); break;
                case 10: isDone = x.halt(66, true); break;
                default: isDone = x.halt(64, false); break;
            }
            CHECK.due("call " + call + " is not refused", isDone, true);
            dueForgotten("call " + call, x);
        }
    }

    private static void refusedAndAskingCallsForgetNothing() {
        StepMachine x = stepped();
        CHECK.due("segment", x.segment(8, 0, 0, 0), false);
        CHECK.due("mark", x.mark(1, true), false);
        CHECK.due("poke", x.poke(0, 9, 0L), false);
        CHECK.due("set(0, 0)", x.set(0, 0), false);
        CHECK.due("set(32, 1)", x.set(32, 1), false);
        CHECK.due("set(34, 0)", x.set(34, 0), false);
        CHECK.due("input", x.input(0, 0L), false);
        CHECK.due("halt(64, true)", x.halt(64, true), false);
        CHECK.due("halt(66, false)", x.halt(66, false), false);
        CHECK.due("run(-1)", x.run(-1), -1);
        CHECK.due("run(0)", x.run(0), 0);
        CHECK.due("back(0)", x.back(0), 0);
        x.peek(0);
        x.get(5);
        x.state(0);
        x.output(0);
        x.rights(0);
        CHECK.due("state(7)", x.state(7), 3);
        CHECK.due("back(3)", x.back(3), 3);
        CHECK.due("get(5)", x.get(5), 0);
        StepMachine y = Load.machine(Load.ebreak());
        y.step();
        y.step();
        y.run(5);
        CHECK.due("step() and run() in an END forget nothing", y.state(7), 1);
    }
}
