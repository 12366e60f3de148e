/** Promises 4 and 6: what programs mean, and FAULTS 3, 4 and 5 in the order in which things are done. */
public final class MeaningTest {
    public static void main(String[] args) {
        namesThatAreNotThere();
        namesToldAgain();
        functionsNames();
        headersComeFirst();
        onlyWhatIsDoneIsLookedAt();
        typesOfSigns();
        typesOfStatements();
        typesOfCallsRowsAndIndexes();
        outputsWhereTheyMayNotBe();
        loops();
        looseOnes();
        looseOnesThatDoNotFit();
        orderOfFaults();
        arithmetic();
        division();
        shifts();
        casts();
        rows();
        ifs();
        calls();
        Kit.finish();
    }

    private static void namesThatAreNotThere() {
        Kit.fault(3, "output @x;");
        Kit.fault(3, "@x = 1;");
        Kit.fault(3, "@x[y] = z;");
        Kit.fault(3, "let x = @x;");
        Kit.fault(3, "if true { let x = 1; } output @x;");
        Kit.fault(3, "if true { let x = 1; } else { let y = @x; }");
        Kit.fault(3, "for k in 0 .. 2 { let x = k; } output @k;");
        Kit.fault(3, "for k in 0 .. 2 { let x = k; } output @x;");
        Kit.fault(3, "let a = 1; output @A;");
        Kit.fault(3, "fn f() u8 { return @a; } alice a u8; output f();");
        Kit.fault(3, "fn f() u8 { let b = 1; return 2; } let a = f(); output @b;");
        Kit.fault(3, "fn f(p u8) u8 { return p; } let a = f(1); output @p;");
    }

    private static void namesToldAgain() {
        Kit.fault(3, "alice a u8; bob @a u8;");
        Kit.fault(3, "alice a u8; let @a = 1;");
        Kit.fault(3, "let a = 1; let @a = 1;");
        Kit.fault(3, "let a = 1; if true { let @a = 1; }");
        Kit.fault(3, "let a = 1; for @a in 0 .. 0 { }");
        Kit.fault(3, "for a in 0 .. 1 { let @a = 1; }");
        Kit.fault(3, "for a in 0 .. 1 { for @a in 0 .. 1 { } }");
        Kit.fault(3, "fn f(a u8) u8 { let @a = 1; return a; } output f(1);");
        Kit.tells("for k in 0 .. 2 { let a = k; } for k in 0 .. 2 { let a = k; } let k = 7; let a = k; output a;", 7);
        Kit.tells("if true { let a = 1; } else { let a = 2; } let a = 3; output a;", 3);
        Kit.tells("fn f(a u8) u8 { let b = a; return b; } let a = u8(4); let b = f(a); output b;", 4);
        Kit.fault(3, "let a = 1; let @a = true;");
        Kit.fault(3, "let a = 1; let a = @x;");
    }

    private static void functionsNames() {
        Kit.fault(3, "output @f(1);");
        Kit.fault(3, "let f = 1; output @f(1);");
        Kit.fault(3, "fn f() u8 { return 1; } output @f;");
        Kit.tells("fn f() u8 { return 1; } let f = u8(5); output f + f();", 6);
        Kit.tells("fn f(f u8) u8 { return f; } alice g u8; output f(2) + g;", 2);
        Kit.fault(3, "fn f() u8 { return @f(); } output f();");
        Kit.fault(3, "fn f() u8 { return @g(); } fn g() u8 { return 1; } output f();");
        Kit.tells("fn g() u8 { return 1; } fn f() u8 { return g(); } output f();", 1);
        Kit.fault(3, "fn f() u8 { return 1; } fn @f(a u8) u8 { return 1; }");
    }

    private static void headersComeFirst() {
        Kit.fault(3, "fn f(a u8, b u8, @a u8) u8 { return 1; }");
        Kit.fault(3, "fn f(a u8, @a u8[0]) u8 { return 1; }");
        Kit.fault(4, "fn f(a u8[@33], a u8) u8 { return 1; }");
        Kit.fault(4, "fn f(a u8[@0]) u8[0] { return 1; }");
        Kit.fault(4, "fn f(a u8[1]) u8[@999999999999999999] { return 1; }");
        Kit.fault(4, "fn f() u8[@0] { return 1; } fn f() u8 { return 1; }");
        Kit.fault(3, "fn f() u8 { return 1; } fn @f() u8[0] { return 1; }");
        Kit.fault(3, "fn f() u8 { return 1; } fn @f() u8 { return 1; } alice a u8[0];");
        Kit.fault(4, "alice a u8[@0]; output x;");
        Kit.fault(4, "alice a u8; bob a u8[@33];");
        Kit.compiled("alice a u8[032]; output a[0];");
        Kit.compiled("alice a u8[1];");
    }

    private static void onlyWhatIsDoneIsLookedAt() {
        Kit.tells("fn f(a u8) u8 { output x; return y + true; } output 1;", 1);
        Kit.tells("for k in 0 .. 0 { output x; let y = 1 + true; } output 2;", 2);
        Kit.tells("for k in 5 .. 4 { k = 3; } output 2;", 2);
        Kit.fault(3, "if false { let y = @x; }");
        Kit.fault(3, "if true { } else { let y = @x; }");
        Kit.fault(3, "for k in 0 .. 1 { let y = @x; }");
    }

    private static void typesOfSigns() {
        String names = "alice u u8; alice v u9; alice i i8; bob b bool; bob r u8[2]; ";
        String[] numbers = {"+", "-", "*", "/", "%", "<", "<=", ">", ">="};
        for (String sign : numbers) {
            Kit.fault(4, names + "output u @" + sign + " v;");
            Kit.fault(4, names + "output u @" + sign + " i;");
            Kit.fault(4, names + "output b @" + sign + " b;");
            Kit.fault(4, names + "output r @" + sign + " r;");
            Kit.fault(4, names + "output r @" + sign + " u;");
            Kit.compiled(names + "output u " + sign + " u; output i " + sign + " i;");
        }
        String[] alike = {"&", "|", "^", "==", "!="};
        for (String sign : alike) {
            Kit.fault(4, names + "output u @" + sign + " v;");
            Kit.fault(4, names + "output b @" + sign + " u;");
            Kit.fault(4, names + "output r @" + sign + " r;");
            Kit.compiled(names + "output u " + sign + " u; output i " + sign + " i; output b " + sign + " b;");
        }
        String[] bools = {"&&", "||"};
        for (String sign : bools) {
            Kit.fault(4, names + "output u @" + sign + " u;");
            Kit.fault(4, names + "output b @" + sign + " u;");
            Kit.fault(4, names + "output 1 @" + sign + " 1;");
            Kit.fault(4, names + "output u @" + sign + " 1;");
            Kit.fault(4, names + "output r @" + sign + " r;");
        }
        String[] shifts = {"<<", ">>"};
        for (String sign : shifts) {
            Kit.fault(4, names + "output u @" + sign + " i;");
            Kit.fault(4, names + "output u @" + sign + " b;");
            Kit.fault(4, names + "output u @" + sign + " r;");
            Kit.fault(4, names + "output b @" + sign + " u;");
            Kit.fault(4, names + "output b @" + sign + " 1;");
            Kit.fault(4, names + "output r @" + sign + " 1;");
            Kit.fault(4, names + "output u @" + sign + " -1;");
            Kit.compiled(names + "output u " + sign + " u; output i " + sign + " v; output 1 " + sign + " u;");
        }
        Kit.fault(4, names + "output @-b;");
        Kit.fault(4, names + "output @-r;");
        Kit.fault(4, names + "output @~r;");
        Kit.fault(4, names + "output @!u;");
        Kit.fault(4, names + "output @!r;");
        Kit.fault(4, names + "output @!1;");
        Kit.fault(4, names + "output u8@(r);");
        Kit.compiled(names + "output ~b; output ~u; output -i; output !b; output u8(b); output bool(u);");
    }

    private static void typesOfStatements() {
        String names = "alice u u8; alice v u9; bob b bool; bob r u8[2]; ";
        Kit.fault(4, names + "u = @v;");
        Kit.fault(4, names + "u = @(v);");
        Kit.fault(4, names + "u = @(v) + v;");
        Kit.fault(4, names + "u = @-v;");
        Kit.fault(4, names + "u = @b;");
        Kit.fault(4, names + "u = @r;");
        Kit.fault(4, names + "r = @[1, 2, 3];");
        Kit.fault(4, names + "r = @u;");
        Kit.fault(4, names + "r[0] = @v;");
        Kit.fault(4, names + "r[0] = @r;");
        Kit.fault(4, names + "u@[0] = 1;");
        Kit.fault(4, names + "u@[x] = 1;");
        Kit.fault(4, names + "r[@b] = 1;");
        Kit.fault(4, names + "r[@(r)] = x;");
        Kit.fault(4, names + "if @u { }");
        Kit.fault(4, names + "if @1 { }");
        Kit.fault(4, names + "if @(r) { }");
        Kit.fault(4, "for k in 0 .. 1 { @k = 1; }");
        Kit.fault(4, "for k in 0 .. 1 { @k[x] = y; }");
        Kit.tells("alice u u8; u = 5; u = u + 1; output u;", 6);
    }

    private static void typesOfCallsRowsAndIndexes() {
        String fn = "fn f(a u8, b bool) u8 { return a; } alice u u9; alice r u8[2]; bob b bool; ";
        Kit.fault(4, fn + "output @f();");
        Kit.fault(4, fn + "output @f(x);");
        Kit.fault(4, fn + "output @f(x, y, z);");
        Kit.fault(4, fn + "output f(@u, x);");
        Kit.fault(4, fn + "output f(@(u), true);");
        Kit.fault(4, fn + "output f(1, @u + u);");
        Kit.fault(5, fn + "output f(1, @1);");
        Kit.fault(3, fn + "output f(1, @x);");
        Kit.fault(4, "fn f(a u8) u8 { return @a == a; } output f(1);");
        Kit.fault(4, "fn f(a u8[2]) u8[3] { return @a; } let r = [u8(1), 2]; output f(r);");
        Kit.fault(4, fn + "output @[u, b];");
        Kit.fault(4, fn + "output @[1, u, b];");
        Kit.fault(4, fn + "output @[r, r];");
        Kit.fault(4, fn + "output @[r];");
        Kit.fault(5, fn + "output [r, @1];");
        Kit.fault(5, fn + "output [@1, r];");
        Kit.fault(5, fn + "output [b, @1];");
        Kit.fault(4, "let r = [true" + Kit.times(", true", 31) + "]; let s = @[true" + Kit.times(", true", 32) + "];");
        Kit.fault(4, fn + "output u@[0];");
        Kit.fault(4, fn + "output 1@[x];");
        Kit.fault(4, fn + "output r[0]@[x];");
        Kit.fault(4, fn + "output r[@b];");
        Kit.fault(4, fn + "output r[@(r)];");
        Kit.fault(4, fn + "output r[@r];");
    }

    private static void outputsWhereTheyMayNotBe() {
        Kit.fault(4, "if true { @output x; }");
        Kit.fault(4, "if true { } else { @output 1; }");
        Kit.fault(4, "if true { for k in 0 .. 1 { @output 1; } }");
        Kit.fault(4, "fn f() u8 { @output x; return 1; } output f();");
        Kit.tells("for k in 3 .. 6 { output k; }", 3, 4, 5);
    }

    private static void loops() {
        Kit.tells("let n = u16(0); for k in 0 .. 256 { } output n;", 0);
        Kit.fault(4, "for @k in 0 .. 257 { }");
        Kit.fault(4, "for @k in 0 .. 999999999999999999 { }");
        Kit.compiled("for k in 999999999999999999 .. 0 { k = x; }");
        Kit.compiled("for k in 999999999999999743 .. 999999999999999999 { }");
        Kit.fault(4, "for @k in 999999999999999742 .. 999999999999999999 { }");
        Kit.fault(3, "let k = 1; for @k in 0 .. 999 { }");
        Kit.tells("let n = u8(0); for k in 1 .. 4 { for j in 0 .. 2 { n = n * 3 + k; } } output n;",
            (((((1 * 3 + 1) * 3 + 2) * 3 + 2) * 3 + 3) * 3 + 3) & 255);
        Kit.tells("for k in 7 .. 8 { output k; output -k; output [k, 1][0]; }", 7, 4294967289L, 7);
    }

    private static void looseOnes() {
        SecretHouse house = Kit.compiled("let a = 5; output a; output 5; output 1 + 2; output u3(5); output ~5;"
            + "output [1, 2]; output -5 == 3; output 1 << 3;");
        int[] widths = {32, 32, 32, 3, 32, 32, 32, 1, 32};
        for (int k = 0; k < widths.length; k++) {
            Kit.due("bits of a LOOSE one", house.bits(2, k), widths[k]);
        }
        Kit.tells("alice a u8; output a + 255; output 255 - a; output a == 0; output 3 > a;", 255, 255, 1, 1);
        Kit.tells("alice a i8; output a + -128; output 127 - a; output -(128) < a;", 128, 127, 1);
        Kit.tells("alice a i8; output [1, 2, a, -128];", 1, 2, 0, 128);
        Kit.tells("alice a u64; output a + 999999999999999999;", 999999999999999999L);
        Kit.tells("alice a i64; output a + -999999999999999999;", -999999999999999999L);
        Kit.tells("let a = 2147483647; output a; let b = -2147483648; output b;", 2147483647L, 2147483648L);
        Kit.tells("alice a u1; output a + 1; output a - 1; output a + (-0);", 1, 1, 0);
        Kit.tells("alice a i2; output a + 1; output a + -2;", 1, 2);
        Kit.tells("alice a u63; output a + (((3)));", 3);
        Kit.tells("let r = [10, 20, 30]; output r[2]; output r[3]; output r[-1]; output r[2147483647];", 30, 0, 0, 0);
        Kit.tells("fn f(a u4) i9 { return -255; } output f(15);", 257);
    }

    private static void looseOnesThatDoNotFit() {
        Kit.fault(5, "alice a u8; output a + @256;");
        Kit.fault(5, "alice a u8; output @256 + a;");
        Kit.fault(5, "alice a u8; output a + @-1;");
        Kit.fault(5, "alice a u8; output a + (@-1);");
        Kit.fault(5, "alice a u8; output a + @- -(-(1));");
        Kit.fault(5, "alice a u8; output a + (((@300)));");
        Kit.fault(5, "alice a i8; output a + @128;");
        Kit.fault(5, "alice a i8; output a + @-129;");
        Kit.fault(5, "alice a u1; output a + @2;");
        Kit.fault(5, "alice a i2; output a + @2;");
        Kit.fault(5, "alice a i2; output a + @-3;");
        Kit.fault(5, "alice a bool; output a == @1;");
        Kit.fault(5, "alice a bool; output @1 && a;");
        Kit.fault(5, "alice a bool; a = @1;");
        Kit.fault(5, "alice a u8[2]; output a + @1;");
        Kit.fault(5, "alice a u8[2]; a = @1;");
        Kit.fault(5, "alice a u8[2]; a[0] = @256;");
        Kit.fault(5, "let a = @2147483648;");
        Kit.fault(5, "let a = @-2147483649;");
        Kit.fault(5, "output @2147483648;");
        Kit.fault(5, "output 1 + @2147483648;");
        Kit.fault(5, "output @2147483648 + 1;");
        Kit.fault(5, "output u64(@2147483648);");
        Kit.fault(5, "output ~@2147483648;");
        Kit.fault(5, "output !@2147483648;");
        Kit.fault(5, "if @2147483648 { }");
        Kit.fault(5, "output @2147483648 << 1;");
        Kit.fault(5, "output [1, 2][@2147483648];");
        Kit.fault(5, "output [1, 2][@-2147483649];");
        Kit.fault(5, "let r = [1, 2]; r[@2147483648] = x;");
        Kit.fault(5, "fn f(a u4) u4 { return a; } output f(@16);");
        Kit.fault(5, "fn f(a u4) u4 { return @16; } output f(15);");
        Kit.fault(5, "for k in 254 .. 257 { let a = u8(1) + @k; }");
        Kit.fault(5, "for k in 254 .. 257 { let a = u8(1) - u8(1) + @-k; }");
        Kit.tells("alice a u8; output a << 999999999999999999; output 1 >> 2147483648;", 0, 0);
    }

    private static void orderOfFaults() {
        Kit.fault(5, "alice a u8; bob b bool; output a && @300;");
        Kit.fault(4, "alice a u8; bob b bool; output (a @&& b) + x;");
        Kit.fault(3, "alice a u8; bob b bool; output (a + @x) && y;");
        Kit.fault(3, "alice r u8[2]; r[@x] = y;");
        Kit.fault(4, "alice r u8[2]; r[@true] = x;");
        Kit.fault(3, "alice r u8[2]; r[true && @x] = y;");
        Kit.fault(3, "alice r u8[2]; @q[x] = y;");
        Kit.fault(3, "output @x[y];");
        Kit.fault(4, "output true@[y];");
        Kit.fault(3, "output [true, 1, @x];");
        Kit.fault(5, "output [true, @1, u8(1)];");
        Kit.fault(4, "let a = 1; let a = true @+ true;");
        Kit.fault(5, "let a = 1; let a = @9999999999;");
        Kit.fault(4, "fn f(a u8) u8 { return a; } output @f(x, y);");
        Kit.fault(5, "fn f(a u8, b u8) u8 { return a; } output f(@300, x);");
        Kit.fault(3, "fn f(a u8, b u8) u8 { return z; } output f(30, @x);");
        Kit.fault(3, "if @x { output y; }");
        Kit.fault(3, "output @x + y;");
    }

    private static void arithmetic() {
        String text = "alice a u8; bob b u8; output a + b; output a - b; output a * b; output -a; output a & b;"
            + "output a | b; output a ^ b; output ~a; output a < b; output a <= b; output a > b; output a >= b;"
            + "output a == b; output a != b;";
        SecretHouse house = Kit.compiled(text);
        int[][] pairs = {{0, 0}, {255, 1}, {200, 100}, {100, 200}, {128, 128}, {15, 17}, {1, 255}};
        for (int[] pair : pairs) {
            int a = pair[0];
            int b = pair[1];
            house.give(0, 0, 0, a);
            house.give(1, 0, 0, b);
            Kit.tells(text, house, a + b & 255, a - b & 255, a * b & 255, -a & 255, a & b, a | b, a ^ b, ~a & 255,
                a < b ? 1 : 0, a <= b ? 1 : 0, a > b ? 1 : 0, a >= b ? 1 : 0, a == b ? 1 : 0, a != b ? 1 : 0);
        }
        String signed = "alice a i8; bob b i8; output a * b; output a < b; output a <= b; output a > b; output a >= b;"
            + "output -a;";
        house = Kit.compiled(signed);
        int[][] others = {{0, 0}, {-1, 1}, {-128, 127}, {127, -128}, {-128, -128}, {-5, -7}, {100, -3}};
        for (int[] pair : others) {
            int a = pair[0];
            int b = pair[1];
            house.give(0, 0, 0, a);
            house.give(1, 0, 0, b);
            Kit.tells(signed, house, a * b & 255, a < b ? 1 : 0, a <= b ? 1 : 0, a > b ? 1 : 0, a >= b ? 1 : 0, -a & 255);
        }
        Kit.tells("output true && false; output true || false; output !true; output true ^ true; output true & true;"
            + "output false | false; output ~false; output true == false; output true != false;",
            0, 1, 0, 0, 1, 0, 1, 0, 1);
        house = Kit.compiled("alice a u64; bob b u64; output a + b; output a - b; output a < b;");
        Kit.give(house, 0, 0, -1L);
        Kit.give(house, 1, 0, 2L);
        Kit.tells("u64", house, 1L, -3L, 0);
        house = Kit.compiled("alice a i64; bob b i64; output a + b; output a - b; output a < b; output -a;");
        Kit.give(house, 0, 0, Long.MIN_VALUE);
        Kit.give(house, 1, 0, 1L);
        Kit.tells("i64", house, Long.MIN_VALUE + 1, Long.MAX_VALUE, 1, Long.MIN_VALUE);
    }

    private static void division() {
        String text = "alice a u8; bob b u8; output a / b; output a % b;";
        SecretHouse house = Kit.compiled(text);
        int[][] pairs = {{0, 0}, {255, 0}, {7, 0}, {255, 255}, {254, 255}, {200, 7}, {1, 1}, {255, 1}, {128, 129}};
        for (int[] pair : pairs) {
            house.give(0, 0, 0, pair[0]);
            house.give(1, 0, 0, pair[1]);
            Kit.tells(text, house, pair[1] == 0 ? 255 : pair[0] / pair[1], pair[1] == 0 ? pair[0] : pair[0] % pair[1]);
        }
        String signed = "alice a i8; bob b i8; output a / b; output a % b;";
        house = Kit.compiled(signed);
        for (int a = -128; a < 128; a += a == -128 || a == 126 ? 1 : 7) {
            for (int b = -128; b < 128; b += b < -125 || (b > -3 && b < 3) ? 1 : 5) {
                house.give(0, 0, 0, a);
                house.give(1, 0, 0, b);
                Kit.tells(signed, house, (b == 0 ? -1 : a / b) & 255, (b == 0 ? a : a % b) & 255);
            }
        }
        Kit.tells("output u1(1) / u1(0); output u1(1) % u1(0); output u1(1) / u1(1); output u1(1) % u1(1);", 1, 1, 1, 0);
        Kit.tells("output i2(-2) / i2(-1); output i2(-2) % i2(-1); output i2(-2) / i2(0); output i2(-2) % i2(0);"
            + "output i2(1) / i2(-2); output i2(1) % i2(-2); output i2(-1) / i2(1);", 2, 0, 3, 2, 0, 1, 3);
    }

    private static void shifts() {
        String text = "alice a u8; alice c i8; bob n u5; output a << n; output a >> n; output c << n; output c >> n;";
        SecretHouse house = Kit.compiled(text);
        for (int n = 0; n < 32; n++) {
            house.give(0, 0, 0, 0xB5);
            house.give(0, 1, 0, 0xB5);
            house.give(1, 0, 0, n);
            int c = (byte) 0xB5;
            Kit.tells(text, house, n > 7 ? 0 : 0xB5 << n & 255, n > 7 ? 0 : 0xB5 >> n, n > 7 ? 0 : 0xB5 << n & 255,
                (n > 7 ? -1 : c >> n) & 255);
        }
        for (int n = 0; n < 12; n++) {
            String fixed = "alice a u8; alice c i8; output a << " + n + "; output a >> " + n + "; output c >> " + n + ";";
            SecretHouse other = Kit.compiled(fixed);
            other.give(0, 0, 0, 0x9D);
            other.give(0, 1, 0, 0x9D);
            Kit.tells(fixed, other, n > 7 ? 0 : 0x9D << n & 255, n > 7 ? 0 : 0x9D >> n,
                (n > 7 ? -1 : (byte) 0x9D >> n) & 255);
        }
        house = Kit.compiled("alice a i8; bob n u64; output a >> n; output a << n;");
        house.give(0, 0, 0, -7);
        house.give(1, 0, 0x40000000, 0);
        Kit.tells("a far shift", house, 255, 0);
        Kit.tells("output 1 << u1(1); output -8 >> 1; output -8 >> u2(3);", 2, 4294967292L, 4294967295L);
    }

    private static void casts() {
        Kit.tells("output u4(200); output i4(200); output u16(i8(-3)); output i16(i8(-3)); output i16(u8(253));"
            + "output u8(true); output i8(true); output bool(0); output bool(-4); output bool(false); output u64(-1);",
            8, 8, 65533, 65533, 253, 1, 1, 0, 1, 0, -1L);
        SecretHouse house = Kit.compiled("alice a i64; output u1(a); output bool(a); output i2(a); output u64(a);");
        Kit.give(house, 0, 0, Long.MIN_VALUE);
        Kit.tells("casts of the least", house, 0, 1, 0, Long.MIN_VALUE);
        int[] widths = {1, 1, 2, 64};
        for (int k = 0; k < 4; k++) {
            Kit.due("bits of a cast", house.bits(2, k), widths[k]);
        }
    }

    private static void rows() {
        SecretHouse house = Kit.compiled("alice r u8[3]; bob i i3; bob j u2; output r[i]; output r[j]; r[i] = 9; output r;");
        for (int i = -4; i < 4; i++) {
            long[] r = {11, 22, 33};
            for (int k = 0; k < 3; k++) {
                house.give(0, k, 0, (int) r[k]);
            }
            int j = i & 3;
            house.give(1, 0, 0, i);
            house.give(1, 1, 0, j);
            long first = i >= 0 && i < 3 ? r[i] : 0;
            long second = j < 3 ? r[j] : 0;
            if (i >= 0 && i < 3) {
                r[i] = 9;
            }
            Kit.tells("rows by " + i, house, first, second, r[0], r[1], r[2]);
        }
        Kit.tells("let r = [1, 2]; let s = r; r[0] = 5; r[-1] = 6; r[2] = 7; output r; output s;", 5, 2, 1, 2);
        Kit.tells("let r = [true, false, true]; r[u8(1)] = true; r[u8(200)] = false; output r;", 1, 1, 1);
        Kit.tells("let r = [u4(1)" + Kit.times(", 2", 31) + "]; output r[i2(-1)]; output r[u5(31)]; output r[i6(31)];"
            + "output r[i6(-32)];", 0, 2, 2, 0);
        Kit.tells("let r = [5]; output r[u1(0)]; output r[u1(1)];", 5, 0);
        Kit.tells("fn f(r u8[2]) u8[2] { r[0] = r[1]; return r; } let r = [u8(1), 2]; output f(r); output r; output f(r)[0];",
            2, 2, 1, 2, 2);
    }

    private static void ifs() {
        String text = "alice a bool; bob b bool; let x = u4(1); let r = [u4(1), 2]; "
            + "if a { x = 2; if b { x = x + 3; r[0] = 7; } else { x = 9; r[1] = 8; } } else { let y = x; x = y + 3; "
            + "if b { r = [u4(4), 5]; } } output x; output r;";
        SecretHouse house = Kit.compiled(text);
        long[][] wants = {{4, 1, 2}, {4, 4, 5}, {9, 1, 8}, {5, 7, 2}};
        for (int n = 0; n < 4; n++) {
            house.give(0, 0, 0, n >> 1);
            house.give(1, 0, 0, n & 1);
            Kit.tells(text, house, wants[n]);
        }
        text = "alice c bool; let x = true; if x { x = false; x = x || c; } else { x = true; } output x;";
        house = Kit.compiled(text);
        Kit.tells(text, house, 0);
        house.give(0, 0, 0, 1);
        Kit.tells(text, house, 1);
        text = "fn f(a u8, c bool) u8 { if c { a = a + 1; } else { a = a + 2; } return a; } alice c bool; bob x u8;"
            + "if c { x = f(x, !c); } else { x = f(x, !c) + f(x, c); } output x;";
        house = Kit.compiled(text);
        house.give(1, 0, 0, 10);
        Kit.tells(text, house, 23);
        house.give(0, 0, 0, 1);
        Kit.tells(text, house, 12);
        text = "alice i u2; bob c bool; let r = [u8(1), 2, 3]; if c { r[i] = 9; } output r;";
        house = Kit.compiled(text);
        house.give(0, 0, 0, 2);
        Kit.tells(text, house, 1, 2, 3);
        house.give(1, 0, 0, 1);
        Kit.tells(text, house, 1, 2, 9);
        house.give(0, 0, 0, 3);
        Kit.tells(text, house, 1, 2, 3);
    }

    private static void calls() {
        Kit.tells("fn f(a u8, b u8) u8 { a = a * 2; let c = a - b; return c; } alice a u8; let b = f(7, f(5, 1)); "
            + "output b; output a; output f(f(1, 1), f(2, 1)) + f(3, 2);", 5, 0, 255 & (2 - 3) + 4);
        String chain = "fn f0(a u4) u4 { return a + 1; } ";
        for (int n = 1; n <= 21; n++) {
            chain += "fn f" + n + "(a u4) u4 { return f" + (n - 1) + "(a); } ";
        }
        Kit.tells(chain + "output f20(3);", 4);
        Kit.fault(6, chain.replace("return f0(a)", "return @f0(a)") + "output f21(3);");
        Kit.fault(6, chain.replace("return f0(a)", "return @f0(a)") + "output (f20(3));");
        Kit.tells(chain + "output (f19(3));", 4);
        Kit.tells("fn f() u8 { return 3; } output " + Kit.times("(", 20) + "f()" + Kit.times(")", 20) + ";", 3);
        Kit.fault(6, "fn f() u8 { return 3; } output " + Kit.times("(", 21) + "@f()" + Kit.times(")", 21) + ";");
        Kit.fault(4, "fn f() u8 { return 3; } output " + Kit.times("(", 21) + "@f(x)" + Kit.times(")", 21) + ";");
        Kit.fault(6, "fn f(a u4) u4 { return a; } output " + Kit.times("f(", 21) + "@f(x" + Kit.times(")", 22) + ";");
        Kit.tells("fn f(a u4) u4 { return a; } output " + Kit.times("f(", 21) + "9" + Kit.times(")", 21) + ";", 9);
        Kit.fault(6, "fn f() u8 { return 3; } fn g() u8 { return " + Kit.times("-", 10) + "@f(); } output "
            + Kit.times("(", 10) + "g()" + Kit.times(")", 10) + ";");
        Kit.tells("fn f() u8 { return 3; } fn g() u8 { return " + Kit.times("-", 10) + "f(); } output "
            + Kit.times("(", 9) + "g()" + Kit.times(")", 9) + ";", 3);
        Kit.fault(6, "fn f() u8 { return 3; } " + Kit.times("if true { ", 21) + "let a = @f(); "
            + Kit.times("} ", 21));
    }
}
