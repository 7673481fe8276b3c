import java.math.BigInteger;
import java.util.ArrayList;
import java.util.HashMap;
import java.util.List;
import java.util.Map;
import java.util.TreeSet;

/**
 * The document's machine once more, as plainly as can be: words are read by the rows of Kinds,
 * numbers are worked with as BigInteger, and a step is taken back by a copy of all that was.
 */
final class Model {

    private static final int SIZE = 131072;
    private static final BigInteger TWO_32 = BigInteger.ONE.shiftLeft(32);

    /** All that a step may change. */
    private static final class All {
        Map<Integer, Integer> memory = new HashMap<>();
        int[] registers = new int[32];
        int pc;
        int state;
        int culprit;
        int value;
        int steps;
        int units;
        int taken;
        List<Integer> output = new ArrayList<>();

        All copy() {
            All c = new All();
            c.memory = new HashMap<>(memory);
            c.registers = registers.clone();
            c.pc = pc;
            c.state = state;
            c.culprit = culprit;
            c.value = value;
            c.steps = steps;
            c.units = units;
            c.taken = taken;
            c.output = new ArrayList<>(output);
            return c;
        }
    }

    private final int[][] segments = new int[8][3];
    private final TreeSet<Integer> marks = new TreeSet<>();
    private final TreeSet<Integer> halts = new TreeSet<>();
    private final List<Integer> input = new ArrayList<>();
    private final List<All> kept = new ArrayList<>();
    private boolean marking;
    private All now = new All();

    boolean segment(int k, int from, int size, int rights) {
        if (k < 0 || k > 7 || from < 0 || size < 0 || (long) from + size > SIZE || rights < 0 || rights > 7) {
            return false;
        }
        kept.clear();
        segments[k] = new int[] {from, size, rights};
        return true;
    }

    boolean mark(int at, boolean on) {
        if (at < 0 || at >= SIZE || at % 2 != 0) {
            return false;
        }
        kept.clear();
        if (on) {
            marks.add(at);
        } else {
            marks.remove(at);
        }
        return true;
    }

    void marking(boolean on) {
        kept.clear();
        marking = on;
    }

    boolean poke(int at, int n, long eight) {
        if (n < 1 || n > 8 || at < 0 || (long) at + n > SIZE) {
            return false;
        }
        kept.clear();
        for (int k = 0; k < n; k++) {
            now.memory.put(at + k, (int) (eight >> 8 * (7 - k)) & 255);
        }
        return true;
    }

    int peek(int at) {
        return at < 0 || at >= SIZE ? -1 : now.memory.getOrDefault(at, 0);
    }

    boolean set(int r, int v) {
        if (r < 1 || r > 33 || r == 32 && v % 2 != 0) {
            return false;
        }
        kept.clear();
        if (r == 33) {
            now.state = 0;
            now.culprit = 0;
        } else if (r == 32) {
            now.pc = v;
        } else {
            now.registers[r] = v;
        }
        return true;
    }

    int get(int r) {
        return r == 32 ? now.pc : r < 0 || r > 31 ? 0 : now.registers[r];
    }

    boolean input(int n, long eight) {
        if (n < 1 || n > 8 || input.size() + n > 1000) {
            return false;
        }
        kept.clear();
        for (int k = 0; k < n; k++) {
            input.add((int) (eight >> 8 * (7 - k)) & 255);
        }
        return true;
    }

    boolean halt(int at, boolean on) {
        if (at < 0 || at % 2 != 0 || halts.contains(at) == on || on && halts.size() == 8) {
            return false;
        }
        kept.clear();
        if (on) {
            halts.add(at);
        } else {
            halts.remove(at);
        }
        return true;
    }

    int step() {
        if (now.state == 0 || now.state == 9) {
            All ahead = now.copy();
            int failure = tryStep();
            if (failure != 0) {
                now.state = failure;
            } else {
                kept.add(ahead);
                if (kept.size() > 100) {
                    kept.remove(0);
                }
            }
        }
        return now.state;
    }

    int run(int n) {
        if (n < 0 || n > 2000) {
            return -1;
        }
        int ahead = now.units;
        boolean isFirst = true;
        while (now.state == 0 || now.state == 9) {
            if (!isFirst && halts.contains(now.pc)) {
                now.state = 9;
                now.culprit = now.pc;
                break;
            }
            boolean isUnit = !marking || marks.contains(now.pc);
            if (isUnit && now.units - ahead == n) {
                break;
            }
            isFirst = false;
            step();
        }
        return now.units - ahead;
    }

    int back(int n) {
        int undone = 0;
        while (undone < n && !kept.isEmpty()) {
            now = kept.remove(kept.size() - 1);
            undone++;
        }
        return undone;
    }

    int state(int what) {
        int[] answers = {now.state, now.culprit, now.value, now.steps, now.units, now.output.size(),
            input.size() - now.taken, kept.size(), halts.size()};
        return what < 0 || what > 8 ? -1 : answers[what];
    }

    int output(int k) {
        return k < 0 || k >= now.output.size() ? -1 : now.output.get(k);
    }

    int rights(int at) {
        return rightsAt(at & 0xffffffffL) + (marks.contains(at) ? 8 : 0);
    }

    private int rightsAt(long at) {
        for (int[] s : segments) {
            if (at >= s[0] && at < (long) s[0] + s[1]) {
                return s[2];
            }
        }
        return 0;
    }

    private boolean may(long at, int bytes, int right) {
        for (int k = 0; k < bytes; k++) {
            if ((rightsAt(at + k) & right) == 0) {
                return false;
            }
        }
        return true;
    }

    private long number(long at, int bytes) {
        long v = 0;
        for (int k = bytes - 1; k >= 0; k--) {
            v = v * 256 + peek((int) at + k);
        }
        return v;
    }

    /** The state of a failure, or 0 when the step counts. */
    private int tryStep() {
        long pc = now.pc & 0xffffffffL;
        int bytes = 2;
        for (int k = 0; k < bytes; k++) {
            if (!may(pc + k, 1, 4)) {
                now.culprit = (int) (pc + k);
                return 1;
            }
            if (k == 1 && (peek((int) pc) & 3) == 3) {
                bytes = 4;
            }
        }
        Kinds.Parts word = Kinds.read((int) number(pc, bytes));
        if (word == null) {
            now.culprit = now.pc;
            return 2;
        }
        Kinds.Parts p = Kinds.behind(word);
        int failure = failureOf(p);
        if (failure != 0) {
            return failure;
        }
        boolean isUnit = !marking || marks.contains(now.pc);
        now.state = 0;
        now.culprit = 0;
        perform(p, bytes);
        now.registers[0] = 0;
        now.steps++;
        now.units += isUnit ? 1 : 0;
        return 0;
    }

    private static int bytesOf(String name) {
        switch (name) {
            case "lb": case "lbu": case "sb": return 1;
            case "lh": case "lhu": case "sh": return 2;
            case "lw": case "sw": return 4;
            default: return 0;
        }
    }

    private long addressOf(Kinds.Parts p) {
        return now.registers[p.a] + (long) p.i & 0xffffffffL;
    }

    private int failureOf(Kinds.Parts p) {
        String name = p.kind.name;
        int bytes = bytesOf(name);
        long at = addressOf(p);
        boolean isStore = name.charAt(0) == 's';
        if (bytes == 0 || at % bytes == 0 && may(at, bytes, isStore ? 2 : 1)) {
            return 0;
        }
        now.culprit = (int) at;
        return isStore ? 4 : 3;
    }

    private void perform(Kinds.Parts p, int bytes) {
        int a = now.registers[p.a];
        int b = now.registers[p.b];
        int next = now.pc + bytes;
        switch (p.kind.name) {
            case "jal":
                now.registers[p.d] = next;
                jump(now.pc + p.i);
                return;
            case "jalr":
                now.registers[p.d] = next;
                int target = a + p.i;
                jump(target % 2 == 0 ? target : target - 1);
                return;
            case "beq": case "bne": case "blt": case "bge": case "bltu": case "bgeu":
                if (holds(p.kind.name, a, b)) {
                    jump(now.pc + p.i);
                } else {
                    now.pc = next;
                }
                return;
            case "ebreak":
                now.state = 6;
                now.culprit = now.pc;
                return;
            case "ecall":
                serve();
                return;
            case "fence":
                break;
            case "sb": case "sh": case "sw":
                for (int k = 0; k < bytesOf(p.kind.name); k++) {
                    now.memory.put((int) addressOf(p) + k, b >> 8 * k & 255);
                }
                break;
            default:
                now.registers[p.d] = result(p, a, b);
        }
        now.pc = next;
    }

    private void jump(int target) {
        now.pc = target;
        if (marking && !marks.contains(target)) {
            now.state = 5;
            now.culprit = target;
        }
    }

    private void serve() {
        int x = now.registers[10];
        int service = now.registers[17];
        if (service == 1) {
            boolean hasRoom = now.output.size() < 2000;
            if (hasRoom) {
                now.output.add(x & 255);
            }
            now.registers[10] = hasRoom ? now.output.size() : -1;
        } else if (service == 2) {
            boolean hasByte = now.taken < input.size();
            now.registers[10] = hasByte ? input.get(now.taken) : -1;
            now.taken += hasByte ? 1 : 0;
        } else if (service == 3) {
            now.registers[10] = now.steps;
        } else {
            now.state = service == 10 ? 8 : 7;
            now.culprit = now.pc;
            now.value = service == 10 ? x : now.value;
            return;
        }
        now.pc += 4;
    }

    private static boolean holds(String name, int a, int b) {
        int signed = big(a).compareTo(big(b));
        int unsigned = unsigned(a).compareTo(unsigned(b));
        switch (name) {
            case "beq": return signed == 0;
            case "bne": return signed != 0;
            case "blt": return signed < 0;
            case "bge": return signed >= 0;
            case "bltu": return unsigned < 0;
            default: return unsigned >= 0;
        }
    }

    private int result(Kinds.Parts p, int a, int b) {
        switch (p.kind.name) {
            case "lui": return big(p.i).shiftLeft(12).intValue();
            case "auipc": return big(p.i).shiftLeft(12).add(big(now.pc)).intValue();
            case "lb": return (byte) number(addressOf(p), 1);
            case "lbu": return (int) number(addressOf(p), 1);
            case "lh": return (short) number(addressOf(p), 2);
            case "lhu": return (int) number(addressOf(p), 2);
            case "lw": return (int) number(addressOf(p), 4);
            case "addi": return pair("add", a, p.i);
            case "slti": return pair("slt", a, p.i);
            case "sltiu": return pair("sltu", a, p.i);
            case "xori": return pair("xor", a, p.i);
            case "ori": return pair("or", a, p.i);
            case "andi": return pair("and", a, p.i);
            case "slli": return pair("sll", a, p.i);
            case "srli": return pair("srl", a, p.i);
            case "srai": return pair("sra", a, p.i);
            default: return pair(p.kind.name, a, b);
        }
    }

    private static int pair(String name, int x, int y) {
        BigInteger a = big(x);
        BigInteger b = big(y);
        BigInteger ua = unsigned(x);
        BigInteger ub = unsigned(y);
        int by = Math.floorMod(y, 32);
        switch (name) {
            case "add": return a.add(b).intValue();
            case "sub": return a.subtract(b).intValue();
            case "sll": return a.shiftLeft(by).intValue();
            case "srl": return ua.shiftRight(by).intValue();
            case "sra": return a.shiftRight(by).intValue();
            case "slt": return a.compareTo(b) < 0 ? 1 : 0;
            case "sltu": return ua.compareTo(ub) < 0 ? 1 : 0;
            case "xor": return a.xor(b).intValue();
            case "or": return a.or(b).intValue();
            case "and": return a.and(b).intValue();
            case "mul": return a.multiply(b).intValue();
            case "mulh": return a.multiply(b).shiftRight(32).intValue();
            case "mulhsu": return a.multiply(ub).shiftRight(32).intValue();
            case "mulhu": return ua.multiply(ub).shiftRight(32).intValue();
            case "div": return y == 0 ? -1 : a.divide(b).intValue();
            case "divu": return y == 0 ? -1 : ua.divide(ub).intValue();
            case "rem": return y == 0 ? x : a.remainder(b).intValue();
            case "remu": return y == 0 ? x : ua.remainder(ub).intValue();
            default: throw new IllegalArgumentException(name);
        }
    }

    private static BigInteger big(int v) {
        return BigInteger.valueOf(v);
    }

    private static BigInteger unsigned(int v) {
        return v < 0 ? big(v).add(TWO_32) : big(v);
    }
}
