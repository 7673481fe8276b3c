import java.util.ArrayList;
import java.util.HashMap;
import java.util.List;
import java.util.Map;

/**
 * The document's kinds of words as rows of text, from the highest bit to the lowest, so that the
 * tests read and write words without any of the class's own code. A token is a row of 0 and 1;
 * d, a, b for five bits of a register; d', a', b' for three; iN for a bit of the immediate;
 * iN..iM for several, downwards.
 */
final class Kinds {

    /** One kind, and for a short one what it stands for. */
    static final class Kind {
        final int number;
        final String name;
        final String[] tokens;
        final int signBit;
        final String behind;
        final String fixed;

        Kind(int number, String name, String pattern, int signBit, String behind, String fixed) {
            this.number = number;
            this.name = name;
            this.tokens = pattern.trim().split(" +");
            this.signBit = signBit;
            this.behind = behind;
            this.fixed = fixed;
        }

        boolean isShort() {
            return number >= 48;
        }

        boolean has(String part) {
            for (String token : tokens) {
                if (token.equals(part) || token.equals(part + "'") || part.equals("i") && token.charAt(0) == 'i') {
                    return true;
                }
            }
            return false;
        }

        boolean hasNear(String part) {
            for (String token : tokens) {
                if (token.equals(part + "'")) {
                    return true;
                }
            }
            return false;
        }
    }

    /** A word with its parts. */
    static final class Parts {
        Kind kind;
        int d;
        int a;
        int b;
        int i;

        int of(char part) {
            return part == 'd' ? d : part == 'a' ? a : b;
        }

        void put(char part, int v) {
            if (part == 'd') {
                d = v;
            } else if (part == 'a') {
                a = v;
            } else {
                b = v;
            }
        }
    }

    static final List<Kind> ALL = new ArrayList<>();
    private static final Map<String, Kind> BY_NAME = new HashMap<>();

    private Kinds() {
    }

    private static void add(int number, String name, String pattern, int signBit, String behind, String fixed) {
        Kind kind = new Kind(number, name, pattern, signBit, behind, fixed);
        ALL.add(kind);
        BY_NAME.put(name, kind);
    }

    private static void longKind(int number, String name, String pattern, int signBit) {
        add(number, name, pattern, signBit, "", "");
    }

    private static String bits(int v, int count) {
        StringBuilder text = new StringBuilder();
        for (int k = count - 1; k >= 0; k--) {
            text.append(v >>> k & 1);
        }
        return text.toString();
    }

    private static void ofI(int number, String name, int opcode, int f3) {
        longKind(number, name, "i11..i0 a " + bits(f3, 3) + " d " + bits(opcode, 7), 11);
    }

    private static void ofB(int number, String name, int f3) {
        longKind(number, name, "i12 i10..i5 b a " + bits(f3, 3) + " i4..i1 i11 1100011", 12);
    }

    private static void ofS(int number, String name, int f3) {
        longKind(number, name, "i11..i5 b a " + bits(f3, 3) + " i4..i0 0100011", 11);
    }

    private static void ofH(int number, String name, int f3, int f7) {
        longKind(number, name, bits(f7, 7) + " i4..i0 a " + bits(f3, 3) + " d 0010011", -1);
    }

    private static void ofR(int number, String name, int f3, int f7) {
        longKind(number, name, bits(f7, 7) + " b a " + bits(f3, 3) + " d 0110011", -1);
    }

    static {
        longKind(0, "lui", "i19..i0 d 0110111", -1);
        longKind(1, "auipc", "i19..i0 d 0010111", -1);
        longKind(2, "jal", "i20 i10..i1 i11 i19..i12 d 1101111", 20);
        ofI(3, "jalr", 0x67, 0);
        ofB(4, "beq", 0);
        ofB(5, "bne", 1);
        ofB(6, "blt", 4);
        ofB(7, "bge", 5);
        ofB(8, "bltu", 6);
        ofB(9, "bgeu", 7);
        ofI(10, "lb", 0x03, 0);
        ofI(11, "lh", 0x03, 1);
        ofI(12, "lw", 0x03, 2);
        ofI(13, "lbu", 0x03, 4);
        ofI(14, "lhu", 0x03, 5);
        ofS(15, "sb", 0);
        ofS(16, "sh", 1);
        ofS(17, "sw", 2);
        ofI(18, "addi", 0x13, 0);
        ofI(19, "slti", 0x13, 2);
        ofI(20, "sltiu", 0x13, 3);
        ofI(21, "xori", 0x13, 4);
        ofI(22, "ori", 0x13, 6);
        ofI(23, "andi", 0x13, 7);
        ofH(24, "slli", 1, 0);
        ofH(25, "srli", 5, 0);
        ofH(26, "srai", 5, 32);
        ofR(27, "add", 0, 0);
        ofR(28, "sub", 0, 32);
        ofR(29, "sll", 1, 0);
        ofR(30, "slt", 2, 0);
        ofR(31, "sltu", 3, 0);
        ofR(32, "xor", 4, 0);
        ofR(33, "srl", 5, 0);
        ofR(34, "sra", 5, 32);
        ofR(35, "or", 6, 0);
        ofR(36, "and", 7, 0);
        ofR(37, "mul", 0, 1);
        ofR(38, "mulh", 1, 1);
        ofR(39, "mulhsu", 2, 1);
        ofR(40, "mulhu", 3, 1);
        ofR(41, "div", 4, 1);
        ofR(42, "divu", 5, 1);
        ofR(43, "rem", 6, 1);
        ofR(44, "remu", 7, 1);
        longKind(45, "fence", bits(0x0ff0000f, 32), -1);
        longKind(46, "ecall", bits(0x00000073, 32), -1);
        longKind(47, "ebreak", bits(0x00100073, 32), -1);
        add(48, "c.addi4spn", "000 i5 i4 i9..i6 i2 i3 d' 00", -1, "addi", "a2");
        add(49, "c.lw", "010 i5 i4 i3 a' i2 i6 d' 00", -1, "lw", "");
        add(50, "c.sw", "110 i5 i4 i3 a' i2 i6 b' 00", -1, "sw", "");
        add(51, "c.nop", bits(0x0001, 16), -1, "addi", "d0 a0");
        add(52, "c.addi", "000 i5 d i4..i0 01", 5, "addi", "a=d");
        add(53, "c.jal", "001 i11 i4 i9 i8 i10 i6 i7 i3 i2 i1 i5 01", 11, "jal", "d1");
        add(54, "c.li", "010 i5 d i4..i0 01", 5, "addi", "a0");
        add(55, "c.addi16sp", "011 i9 00010 i4 i6 i8 i7 i5 01", 9, "addi", "d2 a2");
        add(56, "c.lui", "011 i5 d i4..i0 01", 5, "lui", "");
        add(57, "c.srli", "100 0 00 d' i4..i0 01", -1, "srli", "a=d");
        add(58, "c.srai", "100 0 01 d' i4..i0 01", -1, "srai", "a=d");
        add(59, "c.andi", "100 i5 10 d' i4..i0 01", 5, "andi", "a=d");
        add(60, "c.sub", "100 0 11 d' 00 b' 01", -1, "sub", "a=d");
        add(61, "c.xor", "100 0 11 d' 01 b' 01", -1, "xor", "a=d");
        add(62, "c.or", "100 0 11 d' 10 b' 01", -1, "or", "a=d");
        add(63, "c.and", "100 0 11 d' 11 b' 01", -1, "and", "a=d");
        add(64, "c.j", "101 i11 i4 i9 i8 i10 i6 i7 i3 i2 i1 i5 01", 11, "jal", "d0");
        add(65, "c.beqz", "110 i8 i4 i3 a' i7 i6 i2 i1 i5 01", 8, "beq", "b0");
        add(66, "c.bnez", "111 i8 i4 i3 a' i7 i6 i2 i1 i5 01", 8, "bne", "b0");
        add(67, "c.slli", "000 0 d i4..i0 10", -1, "slli", "a=d");
        add(68, "c.lwsp", "010 i5 d i4 i3 i2 i7 i6 10", -1, "lw", "a2");
        add(69, "c.jr", "100 0 a 00000 10", -1, "jalr", "d0");
        add(70, "c.mv", "100 0 d b 10", -1, "add", "a0");
        add(71, "c.ebreak", bits(0x9002, 16), -1, "ebreak", "");
        add(72, "c.jalr", "100 1 a 00000 10", -1, "jalr", "d1");
        add(73, "c.add", "100 1 d b 10", -1, "add", "a=d");
        add(74, "c.swsp", "110 i5..i2 i7 i6 b 10", -1, "sw", "a2");
    }

    static Kind named(String name) {
        Kind kind = BY_NAME.get(name);
        if (kind == null) {
            throw new IllegalArgumentException(name);
        }
        return kind;
    }

    static Parts parts(String name, int d, int a, int b, int i) {
        Parts parts = new Parts();
        parts.kind = named(name);
        parts.d = d;
        parts.a = a;
        parts.b = b;
        parts.i = i;
        return parts;
    }

    static int word(String name, int d, int a, int b, int i) {
        return write(parts(name, d, a, b, i));
    }

    static int write(Parts parts) {
        long w = 0;
        for (String token : parts.kind.tokens) {
            char first = token.charAt(0);
            if (first == '0' || first == '1') {
                w = w << token.length() | Long.parseLong(token, 2);
            } else if (first == 'i') {
                int high = highOf(token);
                int count = high - lowOf(token) + 1;
                w = w << count | parts.i >>> lowOf(token) & (1L << count) - 1;
            } else if (token.length() == 2) {
                w = w << 3 | parts.of(first) - 8 & 7;
            } else {
                w = w << 5 | parts.of(first) & 31;
            }
        }
        return (int) w;
    }

    /** The word's parts, or null when it is of no kind. */
    static Parts read(int w) {
        boolean isShort = (w & 3) != 3;
        Parts found = null;
        for (Kind kind : ALL) {
            Parts parts = kind.isShort() == isShort ? readAs(kind, w) : null;
            if (parts != null) {
                if (found != null) {
                    throw new IllegalStateException(found.kind.name + " and " + kind.name);
                }
                found = parts;
            }
        }
        return found;
    }

    private static Parts readAs(Kind kind, int w) {
        Parts parts = new Parts();
        parts.kind = kind;
        int at = kind.isShort() ? 16 : 32;
        for (String token : kind.tokens) {
            char first = token.charAt(0);
            if (first == '0' || first == '1') {
                at -= token.length();
                if (field(w, at, token.length()) != Long.parseLong(token, 2)) {
                    return null;
                }
            } else if (first == 'i') {
                int count = highOf(token) - lowOf(token) + 1;
                at -= count;
                parts.i |= (int) field(w, at, count) << lowOf(token);
            } else if (token.length() == 2) {
                at -= 3;
                parts.put(first, 8 + (int) field(w, at, 3));
            } else {
                at -= 5;
                parts.put(first, (int) field(w, at, 5));
            }
        }
        if (at != 0) {
            throw new IllegalStateException(kind.name + " has " + at + " bits too few");
        }
        if (kind.signBit >= 0 && (parts.i >>> kind.signBit & 1) == 1) {
            parts.i -= 1 << kind.signBit + 1;
        }
        return mayBe(parts) ? parts : null;
    }

    private static boolean mayBe(Parts p) {
        if (!p.kind.isShort()) {
            return true;
        }
        boolean hasNoZero = (p.d != 0 || !p.kind.has("d")) && (p.a != 0 || !p.kind.has("a"))
                && (p.b != 0 || !p.kind.has("b") || p.kind.name.equals("c.swsp"));
        switch (p.kind.name) {
            case "c.addi4spn": case "c.addi": case "c.addi16sp": case "c.srli": case "c.srai": case "c.slli":
                return hasNoZero && p.i != 0;
            case "c.lui":
                return hasNoZero && p.i != 0 && p.d != 2;
            default:
                return hasNoZero;
        }
    }

    /** The long word's parts for which a short one stands (of a long one, its own). */
    static Parts behind(Parts p) {
        if (!p.kind.isShort()) {
            return p;
        }
        Parts q = parts(p.kind.behind, p.d, p.a, p.b, p.i);
        for (String fix : p.kind.fixed.isEmpty() ? new String[0] : p.kind.fixed.split(" ")) {
            q.put(fix.charAt(0), fix.equals("a=d") ? p.d : Integer.parseInt(fix.substring(1)));
        }
        if (p.kind.name.equals("c.lui")) {
            q.i = Math.floorMod(p.i, 1 << 20);
        }
        return q;
    }

    private static long field(int w, int low, int count) {
        return (w & 0xffffffffL) >>> low & (1L << count) - 1;
    }

    private static int highOf(String token) {
        String first = token.split("\\.\\.")[0];
        return Integer.parseInt(first.substring(1));
    }

    private static int lowOf(String token) {
        String[] ends = token.split("\\.\\.");
        return Integer.parseInt(ends[ends.length - 1].substring(1));
    }
}
