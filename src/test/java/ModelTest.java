import java.util.Random;

/**
 * Runs of calls by chance (the same each time) on the class and on the model. They are longer
 * than the 512 calls that are promised: the class has no such end.
 */
public final class ModelTest {

    private static final Check CHECK = new Check("ModelTest");
    private static final int RUNS = 600;
    private static final int CALLS = 300;
    private static final int BASE = 256;
    private static final int SPAN = 512;

    private final Random chance;
    private final StepMachine x = new StepMachine();
    private final Model model = new Model();
    private final int seed;
    private final int region;

    private ModelTest(int seed) {
        this.seed = seed;
        this.chance = new Random(seed);
        this.region = seed % 5 == 0 ? 131072 - SPAN : BASE;
    }

    public static void main(String[] args) {
        for (int seed = 0; seed < RUNS && CHECK.isClean(); seed++) {
            new ModelTest(seed).go();
        }
        CHECK.end();
    }

    private void go() {
        prepare();
        for (int k = 0; k < CALLS && CHECK.isClean(); k++) {
            boolean hasEnded = model.state(0) != 0 && model.state(0) != 9;
            if (hasEnded && chance.nextBoolean()) {
                goOnFromAnEnd();
            } else {
                call();
            }
            compareFew();
            if (k % 20 == 0) {
                compareAll();
            }
        }
        compareAll();
    }

    private void due(String call, long got, long want) {
        CHECK.due("seed " + seed + ": " + call, got, want);
    }

    private void due(String call, boolean got, boolean want) {
        CHECK.due("seed " + seed + ": " + call, got, want);
    }

    private void prepare() {
        segment(7, region, SPAN, 7);
        for (int r = 1; r < 32; r++) {
            set(r, number());
        }
        set(17, chance.nextInt(4));
        set(32, region);
        for (int at = region; at < region + SPAN - 8; at += 2) {
            if (chance.nextInt(3) == 0) {
                mark(at, true);
            }
        }
        for (int at = region; at < region + SPAN - 8; ) {
            at += writeWord(at);
        }
    }

    private int writeWord(int at) {
        Kinds.Parts parts = randomParts();
        int w = Kinds.write(parts);
        int n = (w & 3) == 3 ? 4 : 2;
        poke(at, n, (long) Integer.reverseBytes(w) << 32);
        return n;
    }

    private Kinds.Parts randomParts() {
        Kinds.Kind kind = Kinds.ALL.get(chance.nextInt(Kinds.ALL.size()));
        if (chance.nextInt(10) == 0) {
            kind = Kinds.named("ecall");
        }
        int d = register(kind.hasNear("d"));
        int a = register(kind.hasNear("a"));
        int b = register(kind.hasNear("b"));
        int i = chance.nextInt(4) == 0 ? chance.nextInt() : chance.nextInt(64) - 32;
        if (kind.number >= 2 && kind.number <= 9 || kind.name.matches("c\\.(j|jal|beqz|bnez)")) {
            i = chance.nextInt(60) * 2 - 50;
        }
        if (chance.nextInt(8) > 0 && (kind.name.matches("l[bhw]u?|s[bhw]|c\\.[ls]w"))) {
            i &= ~3;
        }
        return Kinds.parts(kind.name, d, a, b, i);
    }

    private int register(boolean near) {
        return near || chance.nextBoolean() ? 8 + chance.nextInt(8) : chance.nextInt(32);
    }

    private int number() {
        switch (chance.nextInt(6)) {
            case 0: return chance.nextInt();
            case 1: return chance.nextInt(40) - 20;
            case 2: return chance.nextBoolean() ? Integer.MIN_VALUE : Integer.MAX_VALUE;
            default: return region + chance.nextInt(SPAN / 4) * 4;
        }
    }

    private int place() {
        switch (chance.nextInt(12)) {
            case 0: return chance.nextInt();
            case 1: return 131072 - chance.nextInt(10);
            case 2: return 131072 + chance.nextInt(10);
            case 3: return region + chance.nextInt(SPAN);
            default: return region + chance.nextInt(SPAN / 2) * 2;
        }
    }

    private void call() {
        switch (chance.nextInt(50)) {
            case 0: segment(chance.nextInt(9), place(), chance.nextInt(SPAN) - 1, chance.nextInt(9)); break;
            case 1: mark(place(), chance.nextInt(3) > 0); break;
            case 2: marking(chance.nextBoolean()); break;
            case 3: writeWord(place() & ~1); break;
            case 4: poke(place(), chance.nextInt(10), chance.nextLong()); break;
            case 5: set(chance.nextInt(35), number()); break;
            case 6: set(32, place()); break;
            case 7: set(17, chance.nextInt(5) == 0 ? 10 : chance.nextInt(4)); break;
            case 8: input(chance.nextInt(10), chance.nextLong()); break;
            case 9: case 10: halt(place(), chance.nextInt(3) > 0); break;
            case 11: case 12: back(chance.nextInt(12) - 1); break;
            case 13: case 24: case 25: back(chance.nextInt(12)); break;
            case 23: back(chance.nextInt(200)); break;
            case 14: segment(chance.nextInt(7), 0, 0, 0); break;
            case 15: case 16: recover(); break;
            case 17: case 18: case 19: case 20: case 21: step(); break;
            default: run(chance.nextInt(20) == 0 ? chance.nextInt(2100) - 50 : chance.nextInt(12)); break;
        }
    }

    private void goOnFromAnEnd() {
        if (chance.nextInt(3) == 0) {
            back(chance.nextInt(5));
        } else {
            recover();
        }
    }

    private void recover() {
        set(33, chance.nextInt());
        set(32, place() & ~1);
    }

    private void segment(int k, int from, int size, int rights) {
        due("segment(" + k + ", " + from + ", " + size + ", " + rights + ")",
                x.segment(k, from, size, rights), model.segment(k, from, size, rights));
    }

    private void mark(int at, boolean on) {
        due("mark(" + at + ")", x.mark(at, on), model.mark(at, on));
    }

    private void marking(boolean on) {
        x.marking(on);
        model.marking(on);
    }

    private void poke(int at, int n, long eight) {
        due("poke(" + at + ", " + n + ")", x.poke(at, n, eight), model.poke(at, n, eight));
    }

    private void set(int r, int v) {
        due("set(" + r + ", " + v + ")", x.set(r, v), model.set(r, v));
    }

    private void input(int n, long eight) {
        due("input(" + n + ")", x.input(n, eight), model.input(n, eight));
    }

    private void halt(int at, boolean on) {
        due("halt(" + at + ", " + on + ")", x.halt(at, on), model.halt(at, on));
    }

    private void step() {
        due("step()", x.step(), model.step());
    }

    private void run(int n) {
        due("run(" + n + ")", x.run(n), model.run(n));
    }

    private void back(int n) {
        due("back(" + n + ")", x.back(n), model.back(n));
    }

    private void compareFew() {
        for (int what = -1; what < 10; what++) {
            due("state(" + what + ")", x.state(what), model.state(what));
        }
        for (int r = -1; r < 34; r++) {
            due("get(" + r + ")", x.get(r), model.get(r));
        }
        int at = place();
        due("peek(" + at + ")", x.peek(at), model.peek(at));
        due("rights(" + at + ")", x.rights(at), model.rights(at));
        int k = chance.nextInt(8) - 1;
        due("output(" + k + ")", x.output(k), model.output(k));
    }

    private void compareAll() {
        for (int at = region - 4; at < region + SPAN + 4; at++) {
            due("peek(" + at + ")", x.peek(at), model.peek(at));
            due("rights(" + at + ")", x.rights(at), model.rights(at));
        }
        for (int k = 0; k <= model.state(5); k++) {
            due("output(" + k + ")", x.output(k), model.output(k));
        }
    }
}
