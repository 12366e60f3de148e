/** The boundary cases of Part II's NAMES, FNs, calls and loops: where they count, how often, how deep. */
public final class EdgeNamesTest {
    public static void main(String[] args) {
        fnsToldTwice();
        fnsKnowThoseAbove();
        namesCountFromThere();
        namesCountToTheEndOfTheirBraces();
        namesCannotBeToldAgain();
        fnsNamesAreTheirOwn();
        roundsOfLoops();
        loopsNames();
        howManyEs();
        depthOfCalls();
        depthOfCallsInFns();
        whatMayBeChanged();
        whereOutputsStand();
        ifsAtTheirEnds();
        fnsThatAreNotCalled();
        Kit.finish();
    }

    private static void fnsToldTwice() {
        String f = "fn f() u8 { return 1; } ";
        Kit.compiled(f + "fn F() u8 { return 1; } fn ff() u8 { return 1; }");
        Kit.fault(3, f + "fn @f() u8 { return 1; }");
        Kit.fault(3, f + "fn g() u8 { return 1; } fn @f(a u8) bool { return true; }");
        Kit.fault(3, f + "fn @f() u8 { return 1; } fn f() u8 { return 1; }");
        Kit.fault(3, f + "fn @f(a u8[0], a u8) u8[0] { return x; } output x;");
    }

    private static void fnsKnowThoseAbove() {
        String f = "fn f() u8 { return 1; } ";
        Kit.tells(f + "fn g() u8 { return f(); } output g();", 1);
        Kit.tells(f + "fn g() u8 { return f(); } fn h() u8 { return f() + g(); } output h();", 2);
        Kit.fault(3, f + "fn g() u8 { return @g(); } output g();");
        Kit.fault(3, "fn g() u8 { return @f(); } " + f + "output g();");
        Kit.fault(3, f + "fn g() u8 { return @h(); } fn h() u8 { return 1; } output h() + g();");
        Kit.fault(3, "output @f();");
        Kit.fault(3, "let f = 1; output @f();");
        Kit.fault(3, f + "output f() + @f;");
        Kit.fault(3, f + "@f = 1;");
        Kit.fault(3, "fn g() u8 { return @a; } alice a u8; output g();");
        Kit.fault(3, "fn g() u8 { return @a; } let a = u8(1); output g();");
        Kit.fault(3, "fn g() u8 { @a = 2; return 1; } alice a u8; output g();");
        Kit.fault(3, "fn g() u8 { return u8(@k); } for k in 0 .. 1 { output g(); }");
        Kit.fault(3, "fn g(a u8) u8 { return @b; } fn h(b u8) u8 { return g(b); } output h(1);");
    }

    private static void namesCountFromThere() {
        Kit.fault(3, "let a = @a;");
        Kit.fault(3, "output @a; let a = 1;");
        Kit.fault(3, "@a = 1; let a = 1;");
        Kit.fault(3, "let b = @a; let a = 1;");
        Kit.tells("let a = 1; let b = a; output b;", 1);
        Kit.tells("alice a u8; bob b u8; output a + b;", 0);
        Kit.tells("fn f(a u8, b u8) u8 { return a - b; } output f(3, 2);", 1);
        Kit.fault(3, "if @a { let a = true; }");
        Kit.tells("let r = [1]; let s = r; output s[0];", 1);
    }

    private static void namesCountToTheEndOfTheirBraces() {
        Kit.tells("let z = 0; if true { let a = 1; z = a; } output z;", 1);
        Kit.fault(3, "if true { let a = 1; } output @a;");
        Kit.fault(3, "if true { } else { let a = 1; } output @a;");
        Kit.fault(3, "if true { let a = 1; } else { let b = @a; }");
        Kit.fault(3, "for k in 0 .. 1 { let a = 1; } output @a;");
        Kit.fault(3, "for k in 0 .. 1 { output k; } output @k;");
        Kit.fault(3, "for k in 0 .. 0 { } output @k;");
        Kit.fault(3, "for k in 0 .. 1 { } @k = 1;");
        Kit.fault(3, "for k in 0 .. 2 { if k == 0 { let a = 1; } let b = @a; }");
        Kit.fault(3, "for k in 0 .. 2 { let c = u8(1); for j in 0 .. 1 { let a = c; } let b = @a; }");
        Kit.fault(3, "fn f(p u8) u8 { let a = p; return a; } let x = f(1); output @p;");
        Kit.fault(3, "fn f(p u8) u8 { let a = p; return a; } let x = f(1); output @a;");
        Kit.fault(3, "fn f(p u8) u8 { if true { let a = p; } return @a; } let x = f(1);");
        Kit.fault(3, "fn f(p u8) u8 { return p; } fn g() u8 { return @p; } output f(1) + g();");
        Kit.tells("let a = 1; if true { if true { } a = a + 1; } output a;", 2);
    }

    private static void namesCannotBeToldAgain() {
        String[] first = {"alice a u8; ", "let a = 1; "};
        for (String text : first) {
            Kit.fault(3, text + "let @a = 1;");
            Kit.fault(3, text + "if true { let @a = 1; }");
            Kit.fault(3, text + "if true { } else { let @a = 1; }");
            Kit.fault(3, text + "for @a in 0 .. 1 { }");
            Kit.fault(3, text + "for @a in 0 .. 0 { }");
            Kit.fault(3, text + "for @a in 1 .. 0 { }");
            Kit.fault(3, text + "for k in 0 .. 1 { let @a = 1; }");
        }
        Kit.fault(3, "alice a u8; alice @a u8;");
        Kit.fault(3, "alice a u8; bob @a bool;");
        Kit.fault(3, "for a in 0 .. 1 { let @a = 1; }");
        Kit.fault(3, "for a in 0 .. 1 { for @a in 0 .. 1 { } }");
        Kit.fault(3, "for a in 0 .. 1 { if true { let @a = 1; } }");
        Kit.fault(3, "fn f(a u8) u8 { let @a = 1; return 1; } output f(1);");
        Kit.fault(3, "fn f(a u8) u8 { for @a in 0 .. 1 { } return 1; } output f(1);");
        Kit.fault(3, "fn f(a u8, @a u8) u8 { return 1; }");
        Kit.fault(3, "fn f(a u8, b u8, c u8, d u8, e u8, g u8, h u8, @a u8) u8 { return 1; }");
        Kit.tells("if true { let a = 1; } let a = 2; output a;", 2);
        Kit.tells("if true { let a = 1; } else { let a = 2; } let a = 3; output a;", 3);
        Kit.tells("for k in 0 .. 3 { let a = k; } let a = 2; output a;", 2);
        Kit.tells("for a in 0 .. 2 { } for a in 2 .. 3 { output a; } let a = 5; output a;", 2, 5);
        Kit.tells("fn f(a u8) u8 { let b = a; return b; } fn g(a u8) u8 { let b = f(a); return b; } output g(4);", 4);
    }

    private static void fnsNamesAreTheirOwn() {
        Kit.tells("fn f(a u8) u8 { let b = a + 1; a = 9; return b; } alice a u8; let b = f(a); output a; output b;", 0, 1);
        Kit.tells("fn f(k u8) u8 { for a in 0 .. 2 { k = k + a; } return k; } let a = u8(1); "
            + "for k in 5 .. 6 { output f(k) + a; }", 7);
        Kit.tells("fn f(f u8) u8 { return f; } let g = f(2); let f = f(3); output f + g;", 5);
        Kit.tells("fn f(a u8) u8 { let t = a; return t; } output f(1) + f(2) + f(f(3));", 6);
        Kit.tells("fn a() u8 { return 1; } alice a u8; for b in 0 .. 1 { output a + a(); }", 1);
    }

    private static void roundsOfLoops() {
        long[] starts = {0, 1, 255, 1000000000L, 4294967295L, 999999999999999743L};
        for (long start : starts) {
            int[] rounds = {0, 1, 2, 254, 255, 256};
            for (int n : rounds) {
                Kit.tells("alice a u9; for k in " + start + " .. " + (start + n) + " { a = ~a; } output a;",
                    n % 2 == 0 ? 0 : 511);
            }
        }
        for (int n = 257; n <= 259; n++) {
            Kit.fault(4, "for @k in 0 .. " + n + " { }");
            Kit.fault(4, "for @k in 999999999999999000 .. " + (999999999999999000L + n) + " { }");
        }
        Kit.fault(4, "for @k in 0 .. 999999999999999999 { }");
        Kit.fault(4, "for @k in 0 .. 4294967296 { }");
        Kit.fault(4, "for @k in 0 .. 4294967297 { }");
        Kit.tells("for k in 1 .. 0 { output 1; } for k in 999999999999999999 .. 0 { output 2; }", new long[0]);
        Kit.tells("for k in 5 .. 5 { output x; } output 1;", 1);
        Kit.tells("for k in 5 .. 4 { output x; } output 1;", 1);
        Kit.fault(3, "for k in 5 .. 6 { output @x; }");
        Kit.tells("bob a bool; for k in 0 .. 256 { output a; }", new long[256]);
        Kit.tells("for k in 0 .. 16 { for j in 0 .. 16 { } } output 1;", 1);
        Kit.tells("for k in 7 .. 10 { output k; }", 7, 8, 9);
    }

    private static void loopsNames() {
        Kit.tells("alice a u64; for k in 999999999999999998 .. 999999999999999999 { output a + k; output a + (k); }",
            999999999999999998L, 999999999999999998L);
        Kit.fault(4, "for k in 0 .. 1 { @k = 1; }");
        Kit.fault(4, "for k in 0 .. 1 { @k = x; }");
        Kit.fault(4, "for k in 0 .. 1 { @k[0] = 1; }");
        Kit.fault(4, "for k in 0 .. 1 { if true { @k = 1; } }");
        Kit.fault(4, "for k in 0 .. 1 { output k@[0]; }");
        Kit.tells("for k in 1 .. 2 { let j = k; j = j + k; output j; }", 2);
        Kit.tells("for k in 3 .. 4 { output -k; output - -k; output -(-(-k)); }", 4294967293L, 3, 4294967293L);
    }

    private static void howManyEs() {
        for (int ps = 0; ps <= 8; ps++) {
            StringBuilder header = new StringBuilder("fn f(");
            for (int k = 0; k < ps; k++) {
                header.append(k > 0 ? ", " : "").append('p').append(k).append(" u8");
            }
            header.append(") u8 { return 7; } ");
            for (int es = 0; es <= 10; es++) {
                String e = es == 0 ? "" : "1" + Kit.times(", 1", es - 1);
                if (es == ps) {
                    Kit.tells(header + "output f(" + e + ");", 7);
                } else {
                    Kit.fault(4, header + "output @f(" + e + ");");
                    Kit.fault(4, header + "output @f(" + e.replace("1", "x") + ");");
                }
            }
        }
    }

    /** A call's NAME stands at most 20 deep: in ( ), behind signs, in rows, in calls, in ifs. */
    private static void depthOfCalls() {
        String fn = "fn f() u8 { return 3; } fn g(a u8) u8 { return a; } let r = [u8(3), 3, 3, 3]; ";
        String[][] parts = {{"(", ")"}, {"- - ", ""}, {"g(", ")"}, {"[", "][0]"}, {"r[", "]"}, {"u8(", ")"}};
        for (String[] part : parts) {
            int each = part[0].equals("- - ") ? 2 : 1;
            for (int deep = 18; deep <= 22; deep += each) {
                String call = Kit.times(part[0], deep / each) + "@f()" + Kit.times(part[1], deep / each);
                if (deep <= 20) {
                    Kit.tells(fn + "output " + call.replace("@", "") + ";", 3);
                } else if (part[0].equals("g(") && deep == 22) {
                    String outer = Kit.times("g(", 21) + "@g(f()" + Kit.times(")", 22);
                    Kit.fault(6, fn + "output " + outer + ";");
                } else {
                    Kit.fault(6, fn + "output " + call + ";");
                }
            }
        }
        for (int deep = 19; deep <= 22; deep++) {
            String text = fn + Kit.times("if true { ", deep) + "let a = @f(); " + Kit.times("} ", deep);
            String loops = fn;
            for (int n = 0; n < deep; n++) {
                loops += "for k" + n + " in 0 .. 1 { ";
            }
            loops += "let a = @f(); " + Kit.times("} ", deep);
            if (deep <= 20) {
                Kit.compiled(text.replace("@", ""));
                Kit.compiled(loops.replace("@", ""));
            } else {
                Kit.fault(6, text);
                Kit.fault(6, loops);
            }
        }
    }

    /** In a FN a NAME stands as much deeper as the NAME of the call that does it. */
    private static void depthOfCallsInFns() {
        String fns = "fn f() u8 { return 3; } fn g() u8 { return " + Kit.times("(", 8) + "f()" + Kit.times(")", 8)
            + "; } fn h() u8 { let a = " + Kit.times("(", 4) + "g()" + Kit.times(")", 4) + "; return a; } ";
        for (int deep = 4; deep <= 8; deep++) {
            String call = "output " + Kit.times("(", deep) + "h()" + Kit.times(")", deep) + ";";
            if (deep + 5 + 9 <= 20) {
                Kit.tells(fns + call, 3);
            } else {
                Kit.fault(6, fns.replace("(f()", "(@f()") + call);
            }
        }
        StringBuilder chain = new StringBuilder("fn f0() u8 { return 3; } ");
        for (int n = 1; n <= 22; n++) {
            chain.append("fn f").append(n).append("() u8 { return f").append(n - 1).append("(); } ");
            if (n <= 20) {
                Kit.tells(chain + "output f" + n + "();", 3);
            } else {
                Kit.fault(6, chain.toString().replace("return f" + (n - 21) + "()", "return @f" + (n - 21) + "()")
                    + "output f" + n + "();");
            }
        }
        Kit.tells(chain + "output f20(); output f20() + f20(); if true { let a = f19(); }", 3, 6);
        Kit.fault(6, chain.toString().replace("return f0()", "return @f0()") + "output f20() + (f20());");
        Kit.tells("fn f() u8 { return 3; } fn g(a u8) u8 { return a; } output g(" + Kit.times("(", 19) + "f()"
            + Kit.times(")", 19) + ");", 3);
        Kit.fault(6, "fn f() u8 { return 3; } fn g(a u8) u8 { return a; } output g(" + Kit.times("(", 20) + "@f()"
            + Kit.times(")", 20) + ");");
    }

    private static void whatMayBeChanged() {
        Kit.tells("alice a u8; a = 3; output a;", 3);
        Kit.tells("bob r u8[2]; r[1] = 3; output r;", 0, 3);
        Kit.tells("fn f(a u8, r u8[2]) u8 { a = a + 1; r[0] = a; return r[0]; } output f(1, [u8(1), 1]);", 2);
        Kit.tells("let a = 1; a = 2; output a;", 2);
        Kit.fault(4, "for k in 0 .. 1 { @k = 0; }");
        Kit.fault(3, "@a = 0;");
    }

    private static void whereOutputsStand() {
        Kit.tells("output 1; for k in 0 .. 1 { for j in 0 .. 1 { output 2; } } output 3;", 1, 2, 3);
        Kit.fault(4, "if true { @output 1; }");
        Kit.fault(4, "if true { } else { @output 1; }");
        Kit.fault(4, "if false { for k in 0 .. 1 { @output x; } }");
        Kit.fault(4, "for k in 0 .. 1 { if true { @output x; } }");
        Kit.fault(4, "fn f() u8 { @output x; return 1; } output f();");
        Kit.fault(4, "fn f() u8 { for k in 0 .. 1 { @output 1; } return 1; } output f();");
        Kit.fault(4, "fn f() u8 { @output 1; return 1; } fn g() u8 { return f(); } let a = g();");
        Kit.tells("if true { for k in 0 .. 0 { output 1; } } output 2;", 2);
        Kit.tells("if true { } output 2; if true { } else { } output 3;", 2, 3);
        Kit.tells("fn f() u8 { output 1; return 1; } output 2;", 2);
        Kit.tells("fn f() u8 { return 1; } output f(); output 2;", 1, 2);
    }

    private static void ifsAtTheirEnds() {
        String text = "alice c bool; let a = u4(1); if c { a = 2; } else { a = 3; } output a;";
        SecretHouse house = Kit.compiled(text);
        Kit.tellsWith(text, house, new long[] {0}, 3);
        Kit.tellsWith(text, house, new long[] {1}, 2);
        text = "alice c bool; let a = u4(1); if c { a = 2; } a = a + 4; output a;";
        house = Kit.compiled(text);
        Kit.tellsWith(text, house, new long[] {0}, 5);
        Kit.tellsWith(text, house, new long[] {1}, 6);
        text = "alice c bool; let a = u4(1); if c { c = false; a = 2; } else { c = true; a = 3; } output a; output c;";
        house = Kit.compiled(text);
        Kit.tellsWith(text, house, new long[] {0}, 3, 1);
        Kit.tellsWith(text, house, new long[] {1}, 2, 0);
        text = "alice c bool; let a = u4(1); if c { } else { a = 3; } if !c { } else { a = a + 5; } output a;";
        house = Kit.compiled(text);
        Kit.tellsWith(text, house, new long[] {0}, 3);
        Kit.tellsWith(text, house, new long[] {1}, 6);
        String open = "";
        String close = "";
        for (int n = 0; n < 40; n++) {
            open += "if r[" + n % 32 + "] { ";
            close += "} ";
        }
        text = "alice r bool[32]; let a = u4(1); " + open + "a = 2; " + close + "output a;";
        house = Kit.compiled(text);
        long[] given = new long[32];
        Kit.tellsWith(text, house, given, 1);
        java.util.Arrays.fill(given, 1);
        Kit.tellsWith(text, house, given, 2);
        for (int k = 0; k < 32; k++) {
            given[k] = 0;
            Kit.tellsWith(text, house, given, 1);
            given[k] = 1;
        }
    }

    private static void fnsThatAreNotCalled() {
        Kit.tells("fn f() u8 { x = y; output z; return true + 99999999999; } output 1;", 1);
        Kit.tells("fn f() u8 { x = y; return z; } for k in 0 .. 0 { output f(); } output 1;", 1);
        Kit.fault(3, "fn f() u8 { @x = y; return z; } if false { let a = f(); }");
        Kit.fault(3, "fn f() u8 { @x = y; return z; } for k in 0 .. 1 { output f(); }");
        Kit.fault(4, "fn f() u8[@0] { x = y; return z; } output 1;");
    }
}
