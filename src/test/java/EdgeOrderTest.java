/** The boundary cases of FAULTS: which of two comes ahead, and at which word, for each thing that is done. */
public final class EdgeOrderTest {
    private static final String NAMES = "fn f(a u8, b bool) u8 { return a; } alice u u8; alice v u9; alice i i8; bob b bool; "
        + "bob r u8[2]; bob s u8[3]; bob q bool[2]; ";
    /** One S more, and nothing is left. */
    private static final String SPENT = NAMES + Kit.spending(2999);

    public static void main(String[] args) {
        oneTwoAndTheOthers();
        fnsAreLookedAtFirst();
        inputsComeNext();
        inTheOrderInWhichThingsAreDone();
        fiveAheadOfFour();
        fourAheadOfSix();
        fiveAheadOfSix();
        costIsAheadOfAllElseOfAnS();
        lets();
        fors();
        outputs();
        assignments();
        ifs();
        calls();
        returns();
        rows();
        indexes();
        wrongTypesOfSigns();
        wrongTypesOfAllElse();
        Kit.finish();
    }

    private static void oneTwoAndTheOthers() {
        Kit.fault(1, "output x; output ; @?");
        Kit.fault(2, "output x; output true + 1; output 99999999999; output @;");
        Kit.fault(2, "fn f(a u8[0], a u8) u8 { return 1; } fn f() u8 { return 1; } alice a u8[99]; output @;");
        Kit.fault(2, Kit.spending(3500) + "output @;");
        Kit.fault(2, "for k in 0 .. 999 { } let @1 = 2;");
        Kit.fault(3, "output @x; output 1 + true;");
        Kit.fault(4, "output @-true; output x;");
    }

    /** The NAME, then each P: its NAME told twice, its TYPE; then the other TYPE; all ahead of inputs. */
    private static void fnsAreLookedAtFirst() {
        String f = "fn f() u8 { return 1; } ";
        Kit.fault(3, f + "fn @f(a u8[0]) u8 { return 1; }");
        Kit.fault(3, f + "fn @f(a u8, a u8) u8[0] { return 1; }");
        Kit.fault(3, "fn f(a u8, @a u8[0]) u8 { return 1; }");
        Kit.fault(3, "fn f(a u8, @a u8, b u8[0]) u8 { return 1; }");
        Kit.fault(4, "fn f(a u8[@0], a u8) u8 { return 1; }");
        Kit.fault(4, "fn f(a u8, b u8[@33], a u8[0]) u8 { return 1; }");
        Kit.fault(4, "fn f(a u8[@0]) u8[33] { return 1; }");
        Kit.fault(3, "fn f(a u8, @a u8) u8[33] { return 1; }");
        Kit.fault(4, "fn f(a u8) u8[@33] { return 1; } fn f() u8 { return 1; }");
        Kit.fault(4, "fn g(a u8[@0]) u8 { return 1; } " + f + f);
        Kit.fault(3, f + "fn @f() u8 { return 1; } fn g(a u8[0]) u8 { return 1; }");
        Kit.fault(4, "fn f() u8[@0] { return x; } alice a u8[0]; output x;");
        Kit.fault(4, "fn f() u8[@0] { return x; } output x;");
        Kit.fault(3, f + "fn @f() u8 { return 1; } alice a u64[32]; alice a u8;");
    }

    /** Of an input the TYPE, the NAME, then 6; all of them ahead of what is done. */
    private static void inputsComeNext() {
        Kit.fault(4, "alice a u8; alice a u8[@0];");
        Kit.fault(4, "alice a u64[15]; alice b u64[@33];");
        Kit.fault(3, "alice a u64[15]; alice @a u64[15];");
        Kit.fault(6, "alice a u64[15]; alice @b u64[15]; alice a u8;");
        Kit.fault(4, "alice a u8[@0]; alice b u64[32];");
        Kit.fault(6, "alice @b u64[32]; alice a u8[0];");
        Kit.fault(3, "alice a u8; bob @a u8; output x;");
        Kit.fault(6, "alice @a u64[32]; output x;");
        Kit.fault(6, "fn f() u8 { return x; } alice @a u64[32]; output f();");
    }

    private static void inTheOrderInWhichThingsAreDone() {
        Kit.fault(3, NAMES + "output @x + y;");
        Kit.fault(3, NAMES + "output u + @y * z;");
        Kit.fault(3, NAMES + "output (u + @x) * (v + y);");
        Kit.fault(4, NAMES + "output (u @+ v) * x;");
        Kit.fault(3, NAMES + "output b + @x;");
        Kit.fault(4, NAMES + "output (u @+ v) + (u + v);");
        Kit.fault(4, NAMES + "output u @+ v + x;");
        Kit.fault(4, NAMES + "output u + v @* u;");
        Kit.fault(3, NAMES + "output -@x + y;");
        Kit.fault(3, NAMES + "output [u, @x, y];");
        Kit.fault(3, NAMES + "output r[@x] + y;");
        Kit.fault(3, NAMES + "output u8(@x) + y;");
        Kit.fault(3, NAMES + "if b { let x = @y; } else { let x = z; }");
        Kit.fault(3, NAMES + "if b { } else { let x = @z; } output y;");
        Kit.fault(5, "for k in 250 .. 260 { let a = u8(1) + @k; let c = u9(1) + k; }");
        Kit.fault(5, "for k in 6 .. 9 { let a = u8(1) + k; let c = u3(1) + @k; }");
        Kit.fault(3, "fn f() u8 { return @x; } output f() + y;");
        Kit.fault(3, "fn f() u8 { return x; } output @y + f();");
    }

    private static void fiveAheadOfFour() {
        String[] signs = {"+", "-", "*", "/", "%", "<", "<=", ">", ">="};
        for (String sign : signs) {
            Kit.fault(5, NAMES + "output b " + sign + " @1;");
            Kit.fault(5, NAMES + "output @1 " + sign + " r;");
        }
        Kit.fault(5, NAMES + "output u && @256;");
        Kit.fault(4, NAMES + "output u @&& 255;");
        Kit.fault(5, NAMES + "output @-1 || u;");
        Kit.fault(4, NAMES + "output 1 @|| u;");
        Kit.fault(5, NAMES + "output 1 && @2147483648;");
        Kit.fault(4, NAMES + "output 1 @&& 2147483647;");
        Kit.fault(5, NAMES + "output !@2147483648;");
        Kit.fault(5, NAMES + "if @2147483648 { }");
        Kit.fault(5, NAMES + "output @2147483648 << i;");
        Kit.fault(4, NAMES + "output 2147483647 @<< i;");
        Kit.fault(5, NAMES + "output @2147483648 << -1;");
        Kit.fault(5, NAMES + "output [u, v, @256];");
        Kit.fault(4, NAMES + "output @[u, v, 255];");
    }

    /** With nothing left, a wrong TYPE is still told ahead of the COST. */
    private static void fourAheadOfSix() {
        String[] signs = {"+", "-", "*", "/", "%", "<", "<=", ">", ">=", "&", "|", "^", "==", "!=", "&&", "||"};
        for (String sign : signs) {
            Kit.fault(4, SPENT + "let x = u @" + sign + " v;");
            Kit.fault(4, SPENT + "let x = u @" + sign + " i;");
            Kit.fault(4, SPENT + "let x = u @" + sign + " b;");
            Kit.fault(4, SPENT + "let x = r @" + sign + " r;");
        }
        Kit.fault(4, SPENT + "let x = u @<< i;");
        Kit.fault(4, SPENT + "let x = u @>> -1;");
        Kit.fault(4, SPENT + "let x = b @>> u;");
        Kit.fault(4, SPENT + "let x = @-b;");
        Kit.fault(4, SPENT + "let x = @~r;");
        Kit.fault(4, SPENT + "let x = @!u;");
        Kit.fault(4, SPENT + "let x = u8@(r);");
        Kit.fault(4, SPENT + "let x = @[u, v];");
        Kit.fault(4, SPENT + "let x = @[r];");
        Kit.fault(4, SPENT + "let x = @[b" + Kit.times(", b", 32) + "];");
        Kit.fault(4, SPENT + "let x = u@[0];");
        Kit.fault(4, SPENT + "let x = r[@b];");
        Kit.fault(4, SPENT + "let x = @f(u);");
        Kit.fault(4, SPENT + "r[0] = @v;");
        Kit.fault(4, SPENT + "r[@b] = u;");
        Kit.fault(6, SPENT + "let x = u @+ u;");
        Kit.fault(6, SPENT + "let x = @[u, u];");
        Kit.fault(6, SPENT + "let x = r@[0];");
        Kit.fault(6, SPENT + "let x = @f(v, x);");
        Kit.fault(6, SPENT + "r@[0] = u;");
    }

    private static void fiveAheadOfSix() {
        Kit.fault(5, SPENT + "let x = u + @256;");
        Kit.fault(6, SPENT + "let x = u + @255;");
        Kit.fault(5, SPENT + "let x = @256 + u;");
        Kit.fault(5, SPENT + "let x = @2147483648;");
        Kit.fault(6, SPENT + "let x = @2147483647;");
        Kit.fault(5, SPENT + "u = @256;");
        Kit.fault(6, SPENT + "u = @255;");
        Kit.fault(5, SPENT + "let x = u8(@-2147483649);");
        Kit.fault(6, SPENT + "let x = u8(@-2147483648);");
        Kit.fault(5, SPENT + "let x = r[@2147483648];");
        Kit.fault(6, SPENT + "let x = r@[2147483647];");
        Kit.fault(5, SPENT + "let x = [u, @256];");
        Kit.fault(6, SPENT + "let x = [u, @255];");
    }

    private static void costIsAheadOfAllElseOfAnS() {
        String spent = NAMES + Kit.spending(3000);
        String[] statements = {"@let u = x;", "@x = y;", "@r[x] = y;", "@u[0] = 1;", "@if u { }", "@for u in 0 .. 999 { }",
            "@output x;"};
        for (String s : statements) {
            Kit.fault(6, spent + s);
        }
        Kit.fault(6, NAMES + Kit.spending(2999) + "if b { @output x; }");
        Kit.fault(4, NAMES + Kit.spending(2998) + "if b { @output x; }");
        Kit.fault(6, NAMES + Kit.spending(2999) + "for @k in 0 .. 1 { x = y; }");
        Kit.fault(6, NAMES + Kit.spending(2998) + "for k in 0 .. 1 { @x = y; }");
        Kit.fault(3, NAMES + Kit.spending(2997) + "for k in 0 .. 1 { @x = y; }");
        Kit.compiled(NAMES + Kit.spending(3000));
    }

    private static void lets() {
        Kit.fault(3, NAMES + "let u = @x;");
        Kit.fault(4, NAMES + "let u = u @+ v;");
        Kit.fault(5, NAMES + "let u = @2147483648;");
        Kit.fault(6, SPENT + "let u = @1;");
        Kit.fault(3, NAMES + "let @u = 1;");
        Kit.fault(3, NAMES + "let @u = u;");
        Kit.fault(3, SPENT + "let @u = v;");
    }

    private static void fors() {
        Kit.fault(3, NAMES + "for @u in 0 .. 257 { }");
        Kit.fault(3, NAMES + "for @u in 1 .. 0 { }");
        Kit.fault(4, NAMES + "for @k in 0 .. 257 { x = y; }");
        Kit.fault(4, SPENT + "for @k in 0 .. 257 { }");
        Kit.fault(6, SPENT + "for @k in 0 .. 256 { }");
        Kit.compiled(SPENT + "for k in 256 .. 256 { }");
    }

    private static void outputs() {
        Kit.fault(4, NAMES + "if b { @output x; }");
        Kit.fault(4, "alice a u64[15]; bob b u64; output a; if true { @output b; }");
        Kit.fault(3, "alice a u64[15]; output a; output @x;");
        Kit.fault(5, "alice a u64[15]; bob b u40; output a; output b; output @2147483648;");
        Kit.fault(6, "alice a u64[15]; bob b u40; output a; output b; @output 1;");
        Kit.fault(6, "alice a u64[15]; bob b u40; output a; output b; " + Kit.spending(2997) + "output @1;");
        Kit.fault(4, NAMES + Kit.spending(2998) + "if b { @output 1; }");
    }

    /** The NAME, no row, the index, E, COST of the element, COST within an 'if'. */
    private static void assignments() {
        Kit.fault(3, NAMES + "@x = y;");
        Kit.fault(3, NAMES + "@x[y] = z;");
        Kit.fault(4, "for k in 0 .. 1 { @k = x; }");
        Kit.fault(4, "for k in 0 .. 1 { @k[x] = y; }");
        Kit.fault(4, NAMES + "u@[x] = y;");
        Kit.fault(3, NAMES + "r[@x] = y;");
        Kit.fault(4, NAMES + "r[@b] = y;");
        Kit.fault(4, NAMES + "r[@b && b] = y;");
        Kit.fault(5, NAMES + "r[@2147483648] = y;");
        Kit.fault(3, NAMES + "r[0] = @y;");
        Kit.fault(5, NAMES + "r[0] = @256;");
        Kit.fault(4, NAMES + "r[0] = @v;");
        Kit.fault(4, NAMES + "r[0] = @r;");
        Kit.fault(4, SPENT + "r[0] = @v;");
        Kit.fault(6, SPENT + "r@[0] = u;");
        Kit.fault(4, NAMES + "u = @v;");
        Kit.fault(4, NAMES + "r = @s;");
        Kit.fault(4, NAMES + "r = @q;");
        Kit.fault(4, NAMES + "r = @u;");
        Kit.fault(4, NAMES + "u = @(((v)));");
        Kit.fault(4, NAMES + "u = @v + v;");
        Kit.fault(4, NAMES + "u = @-v;");
        Kit.fault(4, NAMES + "u = @u < u;");
        Kit.fault(4, NAMES + "u = @u9(u);");
        Kit.fault(4, NAMES + "u = @q[0];");
        Kit.fault(4, NAMES + "u = @[u];");
        String spent = NAMES + Kit.spending(2998) + "if b { ";
        Kit.fault(4, spent + "u = @v; }");
        Kit.fault(6, spent + "@u = u; }");
        Kit.fault(6, spent + "r@[0] = u; }");
        Kit.fault(6, NAMES + Kit.spending(2998 - 16) + "if b { @r[0] = u; }");
        Kit.compiled(NAMES + Kit.spending(2998 - 32) + "if b { r[0] = u; }");
    }

    private static void ifs() {
        Kit.fault(3, NAMES + "if @x { y = z; }");
        Kit.fault(4, NAMES + "if @u { y = z; }");
        Kit.fault(4, NAMES + "if @(u) { }");
        Kit.fault(4, NAMES + "if @u + u { }");
        Kit.fault(4, NAMES + "if @r { }");
        Kit.fault(4, NAMES + "if @q { }");
        Kit.fault(4, NAMES + "if @-u { }");
        Kit.fault(4, NAMES + "if @1 { }");
        Kit.fault(4, NAMES + "if @u1(b) { }");
        Kit.compiled(NAMES + "if b { } if q[0] { } if u < u { } if !b { } if true { } if bool(u) { }");
    }

    /** The NAME, how many, then each E done and looked at. */
    private static void calls() {
        Kit.fault(3, NAMES + "output @g(x);");
        Kit.fault(3, NAMES + "output @u(x);");
        Kit.fault(4, NAMES + "output @f(x);");
        Kit.fault(4, NAMES + "output @f(x, y, z);");
        Kit.fault(4, NAMES + "output @f();");
        Kit.fault(4, SPENT + "let x = @f(y);");
        Kit.fault(6, SPENT + "let x = @f(y, z);");
        Kit.fault(3, NAMES + "output f(@x, y);");
        Kit.fault(4, NAMES + "output f(@v, y);");
        Kit.fault(4, NAMES + "output f(@(v), y);");
        Kit.fault(4, NAMES + "output f(@v + v, y);");
        Kit.fault(5, NAMES + "output f(@256, y);");
        Kit.fault(3, NAMES + "output f(u, @y);");
        Kit.fault(4, NAMES + "output f(u, @u);");
        Kit.fault(5, NAMES + "output f(u, @1);");
        Kit.fault(4, NAMES + "output f(@r, b);");
        Kit.fault(4, NAMES + "output f(@[u], b);");
        Kit.fault(4, NAMES + "output " + Kit.times("(", 21) + "@f(x)" + Kit.times(")", 21) + ";");
        Kit.fault(3, NAMES + "output " + Kit.times("(", 21) + "@g(x)" + Kit.times(")", 21) + ";");
        Kit.fault(6, NAMES + "output " + Kit.times("(", 21) + "@f(x, y)" + Kit.times(")", 21) + ";");
        Kit.fault(3, NAMES + "output " + Kit.times("(", 20) + "f(@x, y)" + Kit.times(")", 20) + ";");
    }

    private static void returns() {
        String[][] wrong = {{"3", "@x"}, {"4", "@a == a"}, {"4", "@(a < a)"}, {"4", "@r"}, {"4", "@u9(a)"}, {"4", "@-i8(a)"},
            {"4", "@true"}, {"4", "@[a]"}, {"5", "@256"}, {"5", "(@-1)"}};
        for (String[] one : wrong) {
            Kit.fault(Integer.parseInt(one[0]), "fn f(a u8, r u8[2]) u8 { return " + one[1]
                + "; } bob r u8[2]; output f(1, r);");
        }
        Kit.fault(4, "fn f(r u8[2]) u8[3] { return @r; } bob r u8[2]; output f(r);");
        Kit.fault(4, "fn f(r u8[2]) u9[2] { return @r; } bob r u8[2]; output f(r);");
        Kit.tells("fn f(r u8[2]) u8[2] { return r; } bob r u8[2]; output f(r);", 0, 0);
    }

    /** All E, LOOSE ones (5), then 4 at its '['. */
    private static void rows() {
        Kit.fault(3, NAMES + "output [u, v, @x];");
        Kit.fault(3, NAMES + "output [256, u, @x];");
        Kit.fault(5, NAMES + "output [@256, u, v];");
        Kit.fault(4, NAMES + "output @[255, u, v];");
        Kit.fault(4, NAMES + "output @[u, b];");
        Kit.fault(4, NAMES + "output @[u, r];");
        Kit.fault(4, NAMES + "output @[r, u];");
        Kit.fault(5, NAMES + "output [r, u, @1];");
        Kit.fault(5, NAMES + "output [b, u, @1];");
        Kit.fault(4, NAMES + "output @[u" + Kit.times(", 1", 32) + "];");
        Kit.fault(5, NAMES + "output [u" + Kit.times(", 1", 32) + ", @256];");
        Kit.fault(4, NAMES + "output @[u, [b]];");
        Kit.fault(4, NAMES + "output [u, @[b, u]];");
    }

    /** X, no row (4), the index. */
    private static void indexes() {
        Kit.fault(3, NAMES + "output @x[y];");
        Kit.fault(4, NAMES + "output u@[x];");
        Kit.fault(4, NAMES + "output b@[x];");
        Kit.fault(4, NAMES + "output 5@[x];");
        Kit.fault(4, NAMES + "output 9999999999@[x];");
        Kit.fault(4, NAMES + "output r[0]@[x];");
        Kit.fault(4, NAMES + "output (u + u)@[x];");
        Kit.fault(3, NAMES + "output r[@x];");
        Kit.fault(4, NAMES + "output r[@b];");
        Kit.fault(4, NAMES + "output r[@(b)];");
        Kit.fault(4, NAMES + "output r[@u < u];");
        Kit.fault(4, NAMES + "output r[@r];");
        Kit.fault(4, NAMES + "output r[@q[0]];");
        Kit.fault(5, NAMES + "output r[@2147483648];");
        Kit.compiled(NAMES + "output r[u]; output r[v]; output r[i]; output r[0]; output r[-1];");
    }

    /** Alike, of the right sort: each sign with each two of a u, another u, an i, a bool and rows. */
    private static void wrongTypesOfSigns() {
        String[] values = {"u", "v", "i", "b", "r", "s", "q"};
        String[] signs = {"+", "-", "*", "/", "%", "<", "<=", ">", ">=", "&", "|", "^", "==", "!=", "&&", "||"};
        for (String sign : signs) {
            for (String one : values) {
                for (String other : values) {
                    boolean number = "uvi".contains(one);
                    boolean truth = one.equals("b");
                    boolean good = one.equals(other) && (sign.equals("&&") || sign.equals("||") ? truth
                        : "& | ^ == !=".contains(sign) ? number || truth : number);
                    if (good) {
                        Kit.compiled(NAMES + "output " + one + " " + sign + " " + other + ";");
                    } else {
                        Kit.fault(4, NAMES + "output " + one + " @" + sign + " " + other + ";");
                    }
                }
            }
        }
        for (String sign : new String[] {"<<", ">>"}) {
            for (String one : values) {
                for (String other : values) {
                    if ("uvi".contains(one) && "uv".contains(other)) {
                        Kit.compiled(NAMES + "output " + one + " " + sign + " " + other + ";");
                    } else {
                        Kit.fault(4, NAMES + "output " + one + " @" + sign + " " + other + ";");
                    }
                }
            }
        }
    }

    private static void wrongTypesOfAllElse() {
        String[] values = {"u", "v", "i", "b", "r", "s", "q"};
        for (String value : values) {
            boolean row = "rsq".contains(value);
            boolean truth = value.equals("b");
            tells(!row && !truth, "output @-" + value + ";");
            tells(!row, "output @~" + value + ";");
            tells(truth, "output @!" + value + ";");
            tells(!row, "output u8@(" + value + ");");
            tells(!row, "output bool@(" + value + ");");
            tells(truth, "if @" + value + " { }");
            tells(row, "output " + value + "@[0];");
            tells(row, value + "@[0] = " + value + "[1];");
            tells(!row && !truth, "output r[@" + value + "];");
            tells(!row && !truth, "r[@" + value + "] = 1;");
            tells(value.equals("u"), "u = @" + value + ";");
            tells(value.equals("r"), "r = @" + value + ";");
            tells(value.equals("u"), "r[0] = @" + value + ";");
            tells(value.equals("u"), "output f(@" + value + ", b);");
            tells(truth, "output f(u, @" + value + ");");
            tells(!row, "output @[" + value + "];");
            tells(value.equals("u"), "output @[u, " + value + "];");
        }
    }

    private static void tells(boolean good, String marked) {
        if (good) {
            Kit.compiled(NAMES + marked.replace("@", ""));
        } else {
            Kit.fault(4, NAMES + marked);
        }
    }
}
