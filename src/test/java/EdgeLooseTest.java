/** The boundary cases of LOOSE ones: what each TYPE has, where they are i32, and where FAULT 5 is. */
public final class EdgeLooseTest {
    private static final long MOST = 999999999999999999L;

    public static void main(String[] args) {
        whatEachTypeHas();
        whereNothingTellsAType();
        whereATypeIsTold();
        typesThatHaveNone();
        placesOfSigns();
        theFirstOfAShift();
        theSecondOfAShift();
        indexes();
        rows();
        Kit.finish();
    }

    /** The least and the most of each u and i, and one step beyond where 18 digits can tell it. */
    private static void whatEachTypeHas() {
        for (int bits = 1; bits <= 64; bits++) {
            long most = bits >= 60 ? MOST : (1L << bits) - 1;
            has("u" + bits, bits, 0, most, bits < 60);
            if (bits > 1) {
                long mostSigned = bits >= 61 ? MOST : (1L << (bits - 1)) - 1;
                has("i" + bits, bits, bits >= 61 ? -MOST : -mostSigned - 1, mostSigned, bits < 61);
            }
        }
    }

    private static void has(String type, int bits, long least, long most, boolean bounded) {
        long mask = bits == 64 ? -1L : (1L << bits) - 1;
        long[] good = {least, least + 1, 0, 1, most - 1, most};
        for (long x : good) {
            if (x >= least && x <= most) {
                String text = "fn f() " + type + " { return " + x + "; } alice a " + type + "; output a + " + x
                    + "; output " + x + " + a; output f(); a = " + x + "; output a;";
                Kit.tells(text, x & mask, x & mask, x & mask, x & mask);
            }
        }
        if (bounded) {
            tooLarge(type, most + 1);
            tooLarge(type, most + 2);
            tooLarge(type, Math.min(MOST, 2 * most + 2));
        }
        if (least == 0 || bounded) {
            tooLarge(type, least - 1);
            tooLarge(type, least - 2);
        }
    }

    private static void tooLarge(String type, long x) {
        String[] marked = {"output a + @#;", "output @# - a;", "output a == (@#);", "a = @#;", "output [a, @#];",
            "output f(@#);", "output g();", "r[0] = @#;", "output a + b * @#;"};
        for (String s : marked) {
            String g = s.contains("g()") ? "return @#;" : "return 1;";
            String text = "fn f(a " + type + ") bool { return true; } fn g() " + type + " { " + g + " } alice a " + type
                + "; alice b " + type + "; alice r " + type + "[2]; " + s;
            Kit.fault(5, text.replace("#", "" + x));
        }
    }

    /** let, output, an index, 'if' E, a B '(' ')' of it, ahead ~ and !, two LOOSE ones: i32. */
    private static void whereNothingTellsAType() {
        String[] marked = {"let a = @#;", "output @#;", "output r[@#];", "r[@#] = x;", "if @# { }", "output u64(@#);",
            "output bool(@#);", "output ~@#;", "output !@#;", "output @# + 1;", "output 1 + @#;", "output @# == @#;",
            "output @# << 1;", "output @# >> a;", "output [@#];", "output [1, @#];", "output [@#, 1];"};
        long[] beyond = {2147483648L, 2147483649L, 4294967295L, 4294967296L, MOST, -2147483649L, -2147483650L, -MOST};
        for (String s : marked) {
            for (long x : beyond) {
                String text = "alice a u2; bob r u8[2]; " + s.replaceFirst("@#", "%" + x).replace("@#", "" + x);
                Kit.fault(5, text.replace("%", "@"));
            }
        }
        long[] within = {2147483647L, 2147483646L, -2147483648L, -2147483647L, 0, -1};
        for (long x : within) {
            long low = x & 0xFFFFFFFFL;
            Kit.tells("let a = " + x + "; output a; output " + x + "; output ~" + x + "; output bool(" + x + "); output u64("
                + x + "); output " + x + " ^ 0; output " + x + " << 0; output [" + x + "];",
                low, low, ~x & 0xFFFFFFFFL, x == 0 ? 0 : 1, x, low, low, low);
        }
        SecretHouse house = Kit.compiled("let a = 1; output a; output 1; output ~1; output 1 + 1; output 1 << 1; output [1, 2]; "
            + "output 1 < 1; output i32(1);");
        int[] bits = {32, 32, 32, 32, 32, 32, 32, 1, 32};
        for (int k = 0; k < bits.length; k++) {
            Kit.due("bits of what is i32", house.bits(2, k), bits[k]);
        }
        Kit.fault(4, "if @2147483647 { }");
        Kit.fault(4, "output @!2147483647;");
        Kit.tells("let a = 2147483647; output a + 1; output a + 1 < a;", 2147483648L, 1);
    }

    private static void whereATypeIsTold() {
        Kit.tells("alice a u64; a = 4294967296; output a; a = 2147483648; output a;", 4294967296L, 2147483648L);
        Kit.tells("fn f(a u40) u40 { return 4294967296; } output f(4294967297);", 4294967296L);
        Kit.tells("alice r u33[2]; r[0] = 4294967296; output r[0] + 4294967296;", 0);
        Kit.tells("alice a i64; output [2147483648, a, -2147483649][0]; output a < 2147483648;", 2147483648L, 1);
        Kit.fault(5, "alice a u31; output a + @2147483648;");
        Kit.fault(5, "alice a i4; output a * i4(1) + @8;");
    }

    /** It must be a u or i: a bool or a row has none. */
    private static void typesThatHaveNone() {
        String names = "fn f(a bool) bool { return a; } fn g() bool { return @0; } fn h() u8[2] { return @1; } "
            + "fn k(a u8[2]) u8 { return 1; } alice b bool; bob r u8[2]; bob q bool[2]; ";
        String[] signs = {"==", "!=", "&", "|", "^", "&&", "||", "+", "-", "*", "/", "%", "<", "<=", ">", ">="};
        String clean = names.replace("@", "");
        for (String sign : signs) {
            Kit.fault(5, clean + "output b " + sign + " @0;");
            Kit.fault(5, clean + "output @1 " + sign + " b;");
            Kit.fault(5, clean + "output r " + sign + " @0;");
            Kit.fault(5, clean + "output @1 " + sign + " r;");
            Kit.fault(5, clean + "output b " + sign + " @-0;");
        }
        Kit.fault(5, clean + "b = @1;");
        Kit.fault(5, clean + "r = @1;");
        Kit.fault(5, clean + "q[0] = @0;");
        Kit.fault(5, clean + "output f(@1);");
        Kit.fault(5, clean + "output k(@1);");
        Kit.fault(5, names.replace("@1", "1") + "output g();");
        Kit.fault(5, names.replace("@0", "0") + "output h();");
        Kit.fault(5, clean + "output [b, @1];");
        Kit.fault(5, clean + "output [@0, b];");
        Kit.fault(5, clean + "output [r, @1];");
    }

    /** FAULT 5 is at its word, or at the outermost - ahead. */
    private static void placesOfSigns() {
        String a = "alice a u8; output a + ";
        Kit.fault(5, a + "@256;");
        Kit.fault(5, a + "(@256);");
        Kit.fault(5, a + "(((@256)));");
        Kit.fault(5, a + "@-1;");
        Kit.fault(5, a + "(@-1);");
        Kit.fault(5, a + "@-(1);");
        Kit.fault(5, a + "@---1;");
        Kit.fault(5, a + "@-(-(-(1)));");
        Kit.fault(5, a + "((@-((-(-1)))));");
        Kit.fault(5, a + "@- -256;");
        Kit.tells(a + "--255;", 255);
        Kit.tells(a + "-0;", 0);
        Kit.fault(5, "for k in 256 .. 257 { let x = u8(1) + @k; }");
        Kit.fault(5, "for k in 1 .. 2 { let x = u8(1) + @-k; }");
        Kit.tells("for k in 255 .. 256 { output u8(1) + k; }", 0);
    }

    private static void theFirstOfAShift() {
        Kit.tells("alice a u2; output 2147483647 << a; output -2147483648 >> a;", 2147483647L, 2147483648L);
        Kit.fault(5, "alice a u64; output @2147483648 << a;");
        Kit.fault(5, "output @-2147483649 >> 1;");
        Kit.tells("output 1 << 31; output 1 << 32; output -1 >> 31; output -1 >> 99;", 2147483648L, 0, 4294967295L,
            4294967295L);
    }

    /** The second one of a shift may be any LOOSE one from 0 on. */
    private static void theSecondOfAShift() {
        String[] signs = {"<<", ">>"};
        for (String sign : signs) {
            String text = "alice a u8; output a " + sign + " ";
            Kit.tells(text + "0;", 0);
            Kit.tells(text + "-0;", 0);
            Kit.tells(text + "(--1);", 0);
            Kit.tells(text + "2147483648;", 0);
            Kit.tells(text + MOST + ";", 0);
            String marked = "alice a u8; output a @" + sign + " ";
            Kit.fault(4, marked + "-1;");
            Kit.fault(4, marked + "(-1);");
            Kit.fault(4, marked + "-" + MOST + ";");
        }
    }

    private static void indexes() {
        String r = "let r = [u8(7), 8]; ";
        Kit.tells(r + "output r[0]; output r[1]; output r[2]; output r[-1]; output r[2147483647]; output r[-2147483648];",
            7, 8, 0, 0, 0, 0);
        Kit.tells(r + "r[2] = 1; r[-1] = 2; r[2147483647] = 3; r[-2147483648] = 4; output r;", 7, 8);
        Kit.tells(r + "output r[--1]; output r[-0]; output r[(1)];", 8, 7, 8);
        Kit.fault(5, r + "output r[@2147483648];");
        Kit.fault(5, r + "output r[@-2147483649];");
        Kit.fault(5, r + "output r[(@2147483648)];");
        Kit.fault(5, r + "r[@2147483648] = 1;");
        Kit.fault(5, "for k in 2147483648 .. 2147483649 { let x = [1][@k]; }");
        Kit.compiled("for k in 2147483647 .. 2147483648 { let x = [1][k]; }");
    }

    /** In a row they are as the first that is none, or i32. */
    private static void rows() {
        SecretHouse house = Kit.compiled("alice a u3; alice b i4; output [1, 7, a]; output [a, 7]; output [-8, b, 7]; "
            + "output [1, -2147483648]; output [7, (a), --7];");
        int[] bits = {3, 3, 3, 3, 3, 4, 4, 4, 32, 32, 3, 3, 3};
        for (int k = 0; k < bits.length; k++) {
            Kit.due("bits of a row's element", house.bits(2, k), bits[k]);
        }
        Kit.fault(5, "alice a u3; output [@8, a];");
        Kit.fault(5, "alice a u3; output [a, 7, @8];");
        Kit.fault(5, "alice a u3; bob b u9; output [@8, a, b];");
        Kit.fault(4, "alice a u3; bob b u9; output @[7, a, b];");
        Kit.fault(5, "alice b i4; output [1, b, @-9];");
        Kit.fault(5, "output [1, 2, @2147483648];");
    }
}
