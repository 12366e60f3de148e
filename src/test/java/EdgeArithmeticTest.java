import java.math.BigInteger;
import java.util.ArrayList;
import java.util.List;

/** The boundary cases of what signs do, for each u and i: wrap-around, by 0, the least, as many bits as it has. */
public final class EdgeArithmeticTest {
    public static void main(String[] args) {
        for (int bits = 1; bits <= 64; bits++) {
            wrapAround("u", bits);
            products("u", bits);
            divisions("u", bits);
            if (bits > 1) {
                wrapAround("i", bits);
                products("i", bits);
                divisions("i", bits);
            }
        }
        shiftsByLooseOnes();
        shiftsByUs();
        casts();
        truths();
        bothSidesAreDone();
        oneBehindAnother();
        rowsOfAllSizes();
        elementsNextToOthers();
        indexesOfAllTypes();
        Kit.finish();
    }

    private static BigInteger power(int bits) {
        return BigInteger.TWO.pow(bits);
    }

    /** What the bits mean. */
    private static BigInteger meaning(String base, int bits, long pattern) {
        BigInteger x = BigInteger.valueOf(pattern).mod(power(bits));
        return base.equals("i") && x.testBit(bits - 1) ? x.subtract(power(bits)) : x;
    }

    private static long pattern(int bits, BigInteger x) {
        return x.mod(power(bits)).longValue();
    }

    private static long truth(boolean so) {
        return so ? 1 : 0;
    }

    /** 0, 1, the most, the least, and what is next to them. */
    private static long[] edges(int bits) {
        long all = bits == 64 ? -1L : (1L << bits) - 1;
        long high = 1L << (bits - 1);
        return new long[] {0, 1 & all, 2 & all, all, all - 1 & all, high, high - 1 & all, high + 1 & all,
            0x5A5A5A5A5A5A5A5AL & all};
    }

    private static void wrapAround(String base, int bits) {
        String type = base + bits;
        String text = "alice a " + type + "; bob b " + type + "; output a + b; output a - b; output -a; output ~a; "
            + "output a & b; output a | b; output a ^ b; output a == b; output a != b; output a < b; output a <= b; "
            + "output a > b; output a >= b;";
        SecretHouse house = Kit.compiled(text);
        for (int k = 0; k < 13; k++) {
            Kit.due("bits of output " + k + " of " + type, house.bits(2, k), k < 7 ? bits : 1);
        }
        for (long a : edges(bits)) {
            for (long b : edges(bits)) {
                BigInteger x = meaning(base, bits, a);
                BigInteger y = meaning(base, bits, b);
                int order = x.compareTo(y);
                Kit.tellsWith(text, house, new long[] {a, b}, pattern(bits, x.add(y)), pattern(bits, x.subtract(y)),
                    pattern(bits, x.negate()), pattern(bits, x.not()), a & b, a | b, a ^ b, truth(order == 0),
                    truth(order != 0), truth(order < 0), truth(order <= 0), truth(order > 0), truth(order >= 0));
            }
        }
    }

    private static void products(String base, int bits) {
        String type = base + bits;
        String text = "alice a " + type + "; bob b " + type + "; output a * b;";
        if (bits * bits + 1 > 3000) {
            Kit.fault(6, text.replace("*", "@*"));
            return;
        }
        SecretHouse house = Kit.compiled(text);
        for (long a : edges(bits)) {
            for (long b : edges(bits)) {
                BigInteger product = meaning(base, bits, a).multiply(meaning(base, bits, b));
                Kit.tellsWith(text, house, new long[] {a, b}, pattern(bits, product));
            }
        }
    }

    private static void divisions(String base, int bits) {
        String type = base + bits;
        String names = "alice a " + type + "; bob b " + type + "; ";
        if (2 * bits * bits + 1 > 3000) {
            Kit.fault(6, names + "output a @/ b;");
            Kit.fault(6, names + "output a @% b;");
            return;
        }
        SecretHouse quotients = Kit.compiled(names + "output a / b;");
        SecretHouse rests = Kit.compiled(names + "output a % b;");
        long all = bits == 64 ? -1L : (1L << bits) - 1;
        for (long a : edges(bits)) {
            for (long b : edges(bits)) {
                BigInteger x = meaning(base, bits, a);
                BigInteger y = meaning(base, bits, b);
                boolean byZero = y.signum() == 0;
                long[] given = {a, b};
                Kit.tellsWith(type + " /", quotients, given, byZero ? all : pattern(bits, x.divide(y)));
                Kit.tellsWith(type + " %", rests, given, byZero ? a : pattern(bits, x.remainder(y)));
            }
        }
        if (base.equals("i")) {
            long least = 1L << (bits - 1);
            Kit.tellsWith("the least by -1", quotients, new long[] {least, all}, least);
            Kit.tellsWith("the least by -1", rests, new long[] {least, all}, 0);
        }
        Kit.tellsWith("0 by 0", quotients, new long[] {0, 0}, all);
        Kit.tellsWith("0 by 0", rests, new long[] {0, 0}, 0);
    }

    private static BigInteger shifted(String sign, BigInteger x, long by) {
        int n = (int) Math.min(by, 200);
        return sign.equals("<<") ? x.shiftLeft(n) : x.shiftRight(n);
    }

    private static void shiftsByLooseOnes() {
        int[] widths = {1, 2, 3, 7, 8, 9, 31, 32, 33, 63, 64};
        for (int bits : widths) {
            for (String base : new String[] {"u", "i"}) {
                if (base.equals("i") && bits == 1) {
                    continue;
                }
                long[] bys = {0, 1, bits - 1, bits, bits + 1, 2L * bits, 64, 128, 1L << 32, 1L << 58};
                StringBuilder text = new StringBuilder("alice a " + base + bits + "; ");
                for (long by : bys) {
                    text.append("output a << ").append(by).append("; output a >> ").append(by).append("; ");
                }
                if (2 * bys.length * bits > 1000) {
                    text.replace(text.indexOf("output a << 64"), text.length(), "");
                }
                SecretHouse house = Kit.compiled(text.toString());
                for (long a : edges(bits)) {
                    long[] wants = new long[house.count(2)];
                    for (int k = 0; k < wants.length; k++) {
                        wants[k] = pattern(bits, shifted(k % 2 == 0 ? "<<" : ">>", meaning(base, bits, a), bys[k / 2]));
                    }
                    Kit.tellsWith(text.toString(), house, new long[] {a}, wants);
                }
            }
        }
    }

    private static void shiftsByUs() {
        int[][] sizes = {{1, 1}, {1, 64}, {2, 1}, {2, 2}, {3, 2}, {7, 3}, {8, 3}, {8, 4}, {9, 4}, {15, 64}, {31, 5}, {32, 6},
            {33, 6}, {63, 7}, {64, 6}, {64, 7}, {64, 8}};
        for (int[] size : sizes) {
            int bits = size[0];
            for (String base : new String[] {"u", "i"}) {
                if (base.equals("i") && bits == 1) {
                    continue;
                }
                String text = "alice a " + base + bits + "; bob n u" + size[1] + "; output a << n; output a >> n;";
                SecretHouse house = Kit.compiled(text);
                long[] bys = {0, 1, 2, bits - 1, bits, bits + 1, 2L * bits, 63, 64, 65, 127, 128, 1L << 32, 1L << 62, Long.MIN_VALUE,
                    -1};
                for (long by : bys) {
                    long n = size[1] == 64 ? by : by & ((1L << size[1]) - 1);
                    long far = n < 0 ? 200 : n;
                    for (long a : edges(bits)) {
                        BigInteger x = meaning(base, bits, a);
                        Kit.tellsWith(text, house, new long[] {a, n}, pattern(bits, shifted("<<", x, far)),
                            pattern(bits, shifted(">>", x, far)));
                    }
                }
            }
        }
    }

    /** To as many bits, one less, one more, the fewest and the most. */
    private static void casts() {
        List<String> types = new ArrayList<>();
        int[] widths = {1, 2, 3, 7, 8, 9, 31, 32, 33, 63, 64};
        for (int bits : widths) {
            types.add("u" + bits);
            if (bits > 1) {
                types.add("i" + bits);
            }
        }
        for (String from : types) {
            int bits = Integer.parseInt(from.substring(1));
            for (String to : types) {
                int wanted = Integer.parseInt(to.substring(1));
                String text = "alice a " + from + "; output " + to + "(a); output bool(a);";
                SecretHouse house = Kit.compiled(text);
                Kit.due("bits of a cast", house.bits(2, 0), wanted);
                for (long a : edges(bits)) {
                    Kit.tellsWith(text, house, new long[] {a}, pattern(wanted, meaning(from.substring(0, 1), bits, a)),
                        truth(a != 0));
                }
            }
            String text = "alice a bool; output " + from + "(a); output bool(a);";
            SecretHouse house = Kit.compiled(text);
            Kit.tellsWith(text, house, new long[] {0}, 0, 0);
            Kit.tellsWith(text, house, new long[] {1}, 1, 1);
        }
        SecretHouse house = Kit.compiled("alice a u64; output bool(a);");
        for (int i = 0; i < 64; i++) {
            Kit.tellsWith("bool of bit " + i, house, new long[] {1L << i}, 1);
        }
    }

    private static void truths() {
        String text = "alice a bool; bob b bool; output a && b; output a || b; output !a; output a & b; output a | b; "
            + "output a ^ b; output ~a; output a == b; output a != b;";
        SecretHouse house = Kit.compiled(text);
        for (int n = 0; n < 4; n++) {
            int a = n >> 1;
            int b = n & 1;
            Kit.tellsWith(text, house, new long[] {a, b}, a & b, a | b, 1 - a, a & b, a | b, a ^ b, 1 - a, 1 - (a ^ b), a ^ b);
        }
        Kit.tells("output true; output false; output !true; output !false;", 1, 0, 0, 1);
    }

    /** Of && and || both sides are always done: what is wrong in the second is found. */
    private static void bothSidesAreDone() {
        Kit.fault(3, "output false && @x;");
        Kit.fault(3, "output true || @x;");
        Kit.fault(5, "output true || @1;");
        Kit.fault(4, "output true || (1 @&& 1);");
        Kit.fault(4, "output false && @-true;");
        Kit.fault(6, Kit.spending(2998) + "output true || false @|| true;");
    }

    /** What is done to the second one of a sign leaves the first one as it is. */
    private static void oneBehindAnother() {
        String text = "fn f(a u4, b u4) u4 { return a * 2 + b; } alice a u4; bob b u4; output a - ~b; output a - -b; "
            + "output a - (b << 1); output a - (b >> u2(1)); output a - u4(b < a); output a < 9 && !(b < 9); "
            + "output f(a, b) - f(b, a) * f(1, 2); output a / 3 / 2; output a % 7 % (b / 2); output a / b * b + a % b; "
            + "output [a, b][1] - [b, a][u1(1)];";
        SecretHouse house = Kit.compiled(text);
        for (int a = 0; a < 16; a++) {
            for (int b = 0; b < 16; b++) {
                long rest = b / 2 == 0 ? a % 7 : a % 7 % (b / 2);
                Kit.tellsWith(text, house, new long[] {a, b}, a - ~b & 15, a + b & 15, a - 2 * b & 15, a - b / 2 & 15,
                    a - truth(b < a) & 15, truth(a < 9 && b >= 9), 2 * a + b - (2 * b + a) * 4 & 15, a / 3 / 2, rest, a,
                    b - a & 15);
            }
        }
    }

    private static void rowsOfAllSizes() {
        for (int n = 1; n <= 34; n++) {
            StringBuilder row = new StringBuilder();
            long[] wants = new long[n + 1];
            for (int k = 0; k < n; k++) {
                row.append(k == 0 ? "u6(0)" : ", " + k);
                wants[k] = k;
            }
            wants[n] = n - 1;
            String text = "let r = @[" + row + "]; output r; output r[" + (n - 1) + "];";
            if (n <= 32) {
                Kit.tells(text.replace("@", ""), wants);
            } else {
                Kit.fault(4, text);
            }
        }
        Kit.fault(3, "output [true" + Kit.times(", true", 32) + ", @x];");
        Kit.fault(5, "output [true" + Kit.times(", true", 32) + ", @1];");
        Kit.fault(4, "let t = true; output @[t" + Kit.times(",t", 1980) + "];");
        Kit.fault(4, "let r = [true]; output @[r];");
        Kit.fault(4, "let r = [true]; output @[true, r];");
        Kit.fault(4, "output @[true, u1(1)];");
        Kit.fault(4, "output @[u2(1), i2(1)];");
        Kit.fault(4, "output @[u2(1), u3(1)];");
    }

    /** Where there is no element nothing is there, whatever stands beside the row. */
    private static void elementsNextToOthers() {
        String rows = "let p = [u8(251), 252]; let r = [u8(1), 2, 3]; let q = [u8(253), 254]; ";
        for (int k = -3; k <= 5; k++) {
            long there = k >= 0 && k < 3 ? k + 1 : 0;
            Kit.tells(rows + "output r[" + k + "]; output r[i4(" + k + ")];", there, there);
            long[] wants = {251, 252, 1, 2, 3, 253, 254, 9};
            if (there > 0) {
                wants[k + 2] = 9;
            }
            Kit.tells(rows + "let e = u8(9); r[" + k + "] = e; output p; output r; output q; output e;", wants);
            Kit.tells(rows + "let e = u8(9); r[i4(" + k + ")] = e; output p; output r; output q; output e;", wants);
            Kit.tells(rows + "let s = r; let e = u8(9); r[" + k + "] = e; output s; output p;", 1, 2, 3, 251, 252);
        }
    }

    /** By a u or i of any bits: where there is none all bits are 0, and nothing is assigned. */
    private static void indexesOfAllTypes() {
        int[] sizes = {1, 2, 3, 4, 5, 8, 31, 32};
        String[] types = {"u1", "u2", "u3", "u5", "u6", "u64", "i2", "i3", "i4", "i6", "i7", "i64"};
        for (int n : sizes) {
            for (String type : types) {
                int bits = Integer.parseInt(type.substring(1));
                String text = "alice r u3[" + n + "]; bob i " + type + "; let x = r[i]; output x; output r[" + (n - 1) + "];";
                SecretHouse reads = Kit.compiled(text);
                SecretHouse writes = Kit.compiled("alice r u3[" + n + "]; bob i " + type + "; r[i] = 0; output r;");
                long[] some = {0, 1, n - 1, n, n + 1, 31, 32, 33, 1L << (bits - 1), -1, -2, -n, 1L << 32, 1L << 62};
                for (long index : some) {
                    tryIndex(reads, writes, type, n, bits == 64 ? index : index & ((1L << bits) - 1));
                }
            }
        }
    }

    private static void tryIndex(SecretHouse reads, SecretHouse writes, String type, int n, long index) {
        BigInteger i = meaning(type.substring(0, 1), Integer.parseInt(type.substring(1)), index);
        boolean there = i.signum() >= 0 && i.compareTo(BigInteger.valueOf(n)) < 0;
        long[] given = new long[n + 1];
        long[] wants = new long[n];
        for (int k = 0; k < n; k++) {
            given[k] = 1 + k % 7;
            wants[k] = there && k == i.intValue() ? 0 : given[k];
        }
        given[n] = index;
        String what = "a row of " + n + " by " + type + " " + i;
        Kit.tellsWith(what, reads, given, there ? 1 + i.intValue() % 7 : 0, given[n - 1]);
        Kit.tellsWith(what, writes, given, wants);
    }
}
