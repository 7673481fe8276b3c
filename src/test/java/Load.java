/** Puts words into a machine's memory, as a program. */
final class Load {

    private Load() {
    }

    /** Puts the words one behind the other; answers the address behind the last. */
    static int words(StepMachine x, int at, int... words) {
        int next = at;
        for (int w : words) {
            int n = (w & 3) == 3 ? 4 : 2;
            x.poke(next, n, (long) Integer.reverseBytes(w) << 32);
            next += n;
        }
        return next;
    }

    /** A machine with all rights to the lowest 4096 bytes, the words at 0. */
    static StepMachine machine(int... words) {
        StepMachine x = new StepMachine();
        x.segment(0, 0, 4096, 7);
        words(x, 0, words);
        return x;
    }

    static int addi(int d, int a, int i) {
        return Kinds.word("addi", d, a, 0, i);
    }

    static int li(int d, int i) {
        return addi(d, 0, i);
    }

    static int ecall() {
        return 0x00000073;
    }

    static int ebreak() {
        return 0x00100073;
    }

    static int nop() {
        return 0x0001;
    }

    static int jal(int d, int i) {
        return Kinds.word("jal", d, 0, 0, i);
    }
}
