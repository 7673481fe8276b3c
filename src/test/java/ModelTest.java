import java.util.Random;

/**
 * Runs of calls by chance (the same each time) on the class and on the model, each of 512 calls,
 * which is as far as the document goes.
 */
public final class ModelTest {

    private static final Check CHECK = new Check("ModelTest");
    private static final int RUNS = 1200;
    private static final int CALLS = 512;
    private static final int LAST_QUESTIONS = 100;
    private static final int BASE = 256;
    private static final int SPAN = 256;

    private final Random chance;
    private final StepMachine x = new StepMachine();
    private final Model model = new Model();
    private final int seed;
    private final int region;
    private int calls;

    private ModelTest(int seed) {
        this.seed = seed;
        this.chance = new Random(seed);
        this.region = seed % 5 == 0 ? 131072 - SPAN : BASE;
    }

    public static void main(String[] args) {
        for (int seed = 0; seed < RUNS && CHECK.isClean(); seed++) {
            new ModelTest(seed).go();
        }
        CHECK.end();
    }

    private void go() {
        prepare();
        while (calls < CALLS - LAST_QUESTIONS && CHECK.isClean()) {
            boolean hasEnded = model.state(0) != 0 && model.state(0) != 9;
            if (hasEnded && chance.nextBoolean()) {
                goOnFromAnEnd();
            } else {
                call();
            }
            ask();
            ask();
        }
        askAll();
    }

    private void due(String call, long got, long want) {
        calls++;
        CHECK.due("seed " + seed + ", call " + calls + ": " + call, got, want);
    }

    private void due(String call, boolean got, boolean want) {
        due(call, got ? 1L : 0L, want ? 1L : 0L);
    }

    private void prepare() {
        segment(7, region, SPAN, 7);
        for (int r = 1; r < 32; r++) {
            set(r, number());
        }
        set(17, chance.nextInt(4));
        set(32, region);
        for (int at = region; at < region + SPAN; at += 2) {
            if (chance.nextInt(3) == 0) {
                mark(at, true);
            }
        }
        writeProgram();
    }

    private void writeProgram() {
        byte[] program = new byte[SPAN + 4];
        int next = 0;
        while (next < SPAN) {
            int w = Kinds.write(randomParts());
            int n = (w & 3) == 3 ? 4 : 2;
            for (int k = 0; k < n; k++) {
                program[next + k] = (byte) (w >>> 8 * k);
            }
            next += n;
        }
        for (int at = 0; at < SPAN; at += 8) {
            long eight = 0;
            for (int k = 0; k < 8; k++) {
                eight = eight << 8 | program[at + k] & 255;
            }
            poke(region + at, 8, eight);
        }
    }

    private void writeWord(int at) {
        int w = Kinds.write(randomParts());
        poke(at, (w & 3) == 3 ? 4 : 2, (long) Integer.reverseBytes(w) << 32);
    }

    private Kinds.Parts randomParts() {
        Kinds.Kind kind = Kinds.ALL.get(chance.nextInt(Kinds.ALL.size()));
        if (chance.nextInt(10) == 0) {
            kind = Kinds.named("ecall");
        }
        int d = register(kind.hasNear("d"));
        int a = register(kind.hasNear("a"));
        int b = register(kind.hasNear("b"));
        int i = chance.nextInt(4) == 0 ? chance.nextInt() : chance.nextInt(64) - 32;
        if (kind.number >= 2 && kind.number <= 9 || kind.name.matches("c\\.(j|jal|beqz|bnez)")) {
            i = chance.nextInt(60) * 2 - 50;
        }
        if (chance.nextInt(8) > 0 && (kind.name.matches("l[bhw]u?|s[bhw]|c\\.[ls]w"))) {
            i &= ~3;
        }
        return Kinds.parts(kind.name, d, a, b, i);
    }

    private int register(boolean near) {
        return near || chance.nextBoolean() ? 8 + chance.nextInt(8) : chance.nextInt(32);
    }

    private int number() {
        switch (chance.nextInt(6)) {
            case 0: return chance.nextInt();
            case 1: return chance.nextInt(40) - 20;
            case 2: return chance.nextBoolean() ? Integer.MIN_VALUE : Integer.MAX_VALUE;
            default: return region + chance.nextInt(SPAN / 4) * 4;
        }
    }

    private int place() {
        switch (chance.nextInt(12)) {
            case 0: return chance.nextInt();
            case 1: return 131072 - chance.nextInt(10);
            case 2: return 131072 + chance.nextInt(10);
            case 3: return region + chance.nextInt(SPAN);
            default: return region + chance.nextInt(SPAN / 2) * 2;
        }
    }

    private void call() {
        switch (chance.nextInt(50)) {
            case 0: segment(chance.nextInt(9), place(), chance.nextInt(SPAN) - 1, chance.nextInt(9)); break;
            case 1: mark(place(), chance.nextInt(3) > 0); break;
            case 2: marking(chance.nextBoolean()); break;
            case 3: writeWord(place() & ~1); break;
            case 4: poke(place(), chance.nextInt(10), chance.nextLong()); break;
            case 5: set(chance.nextInt(35), number()); break;
            case 6: set(32, place()); break;
            case 7: set(17, chance.nextInt(5) == 0 ? 10 : chance.nextInt(4)); break;
            case 8: input(chance.nextInt(10), chance.nextLong()); break;
            case 9: case 10: halt(place(), chance.nextInt(3) > 0); break;
            case 11: case 12: back(chance.nextInt(12) - 1); break;
            case 13: case 24: case 25: back(chance.nextInt(12)); break;
            case 23: back(chance.nextInt(200)); break;
            case 14: segment(chance.nextInt(7), 0, 0, 0); break;
            case 15: case 16: recover(); break;
            case 17: case 18: case 19: case 20: case 21: step(); break;
            default: run(chance.nextInt(20) == 0 ? chance.nextInt(2100) - 50 : chance.nextInt(12)); break;
        }
    }

    private void goOnFromAnEnd() {
        if (chance.nextInt(3) == 0) {
            back(chance.nextInt(5));
        } else {
            recover();
        }
    }

    private void recover() {
        set(33, chance.nextInt());
        set(32, place() & ~1);
    }

    private void segment(int k, int from, int size, int rights) {
        due("segment(" + k + ", " + from + ", " + size + ", " + rights + ")",
                x.segment(k, from, size, rights), model.segment(k, from, size, rights));
    }

    private void mark(int at, boolean on) {
        due("mark(" + at + ")", x.mark(at, on), model.mark(at, on));
    }

    private void marking(boolean on) {
        calls++;
        x.marking(on);
        model.marking(on);
    }

    private void poke(int at, int n, long eight) {
        due("poke(" + at + ", " + n + ")", x.poke(at, n, eight), model.poke(at, n, eight));
    }

    private void set(int r, int v) {
        due("set(" + r + ", " + v + ")", x.set(r, v), model.set(r, v));
    }

    private void input(int n, long eight) {
        due("input(" + n + ")", x.input(n, eight), model.input(n, eight));
    }

    private void halt(int at, boolean on) {
        due("halt(" + at + ", " + on + ")", x.halt(at, on), model.halt(at, on));
    }

    private void step() {
        due("step()", x.step(), model.step());
    }

    private void run(int n) {
        due("run(" + n + ")", x.run(n), model.run(n));
    }

    private void back(int n) {
        due("back(" + n + ")", x.back(n), model.back(n));
    }

    private void ask() {
        switch (chance.nextInt(6)) {
            case 0: case 1: askState(chance.nextInt(11) - 1); break;
            case 2: case 3: askRegister(chance.nextInt(36) - 1); break;
            case 4: askPlace(place()); break;
            default: askOutput(chance.nextInt(Math.max(4, model.state(5) + 2)) - 1); break;
        }
    }

    private void askAll() {
        for (int what = 0; what <= 8; what++) {
            askState(what);
        }
        for (int r = 1; r <= 32; r++) {
            askRegister(r);
        }
        while (calls < CALLS - 1) {
            askPlace(region + chance.nextInt(SPAN));
        }
    }

    private void askState(int what) {
        due("state(" + what + ")", x.state(what), model.state(what));
    }

    private void askRegister(int r) {
        due("get(" + r + ")", x.get(r), model.get(r));
    }

    private void askPlace(int at) {
        due("peek(" + at + ")", x.peek(at), model.peek(at));
        due("rights(" + at + ")", x.rights(at), model.rights(at));
    }

    private void askOutput(int k) {
        due("output(" + k + ")", x.output(k), model.output(k));
    }
}
