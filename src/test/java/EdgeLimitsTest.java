import java.util.ArrayList;
import java.util.List;

/** The boundary cases of COST, of the inputs' and outputs' bits and of their ELEMENTS: 3000, 1000 and 256. */
public final class EdgeLimitsTest {
    private static final String NAMES = "alice u u8; alice v u3; alice i i5; alice w i32; bob b bool; bob r u8[4]; "
        + "bob q bool[3]; $ ";

    public static void main(String[] args) {
        statements();
        loops();
        signs();
        signsAhead();
        shifts();
        casts();
        rows();
        indexes();
        assignments();
        assignmentsWithinIfs();
        calls();
        callsWithinIfs();
        whatCostsNothing();
        costsOfOneSign();
        bitsOfInputs();
        elementsOfInputs();
        bitsOfOutputs();
        elementsOfOutputs();
        outputsAreCountedWhenTheyAreDone();
        Kit.finish();
    }

    /**
     * What the text costs, part by part. The marks @a, @b, .. stand where the parts are counted, in
     * that order; at $ as much is spent ahead as makes a part's first unit, or its last, the 3001st.
     */
    private static void pays(String marked, int... costs) {
        List<Integer> places = new ArrayList<>();
        StringBuilder text = new StringBuilder();
        int[] found = new int[costs.length];
        for (int at = 0; at < marked.length(); at++) {
            if (marked.charAt(at) == '@') {
                found[marked.charAt(at + 1) - 'a'] = text.length();
                at++;
            } else {
                text.append(marked.charAt(at));
            }
        }
        for (int place : found) {
            places.add(place);
        }
        int before = 0;
        for (int part = 0; part < costs.length; part++) {
            fails(text.toString(), before, places.get(part));
            fails(text.toString(), before + costs[part] - 1, places.get(part));
            before += costs[part];
        }
        Kit.compiled(filled(text.toString(), 3000 - before));
        Kit.compiled(filled(text.toString(), 2999 - before));
    }

    private static String filled(String text, int spent) {
        return text.replace("$ ", Kit.spending(spent));
    }

    /** With so much left, FAULT 6 is at the place. */
    private static void fails(String text, int left, int place) {
        String spending = Kit.spending(3000 - left);
        boolean behind = place > text.indexOf("$ ");
        Kit.answers(text.replace("$ ", spending), 6, behind ? place - 2 + spending.length() : place);
    }

    private static void statements() {
        pays(NAMES + "@alet x = u;", 1);
        pays(NAMES + "@au = u;", 1);
        pays(NAMES + "@ar = r;", 1);
        pays(NAMES + "@aoutput r;", 1);
        pays(NAMES + "@aif b { }", 1);
        pays(NAMES + "@aif b { @blet x = u; } else { @clet y = u; }", 1, 1, 1);
        pays(NAMES + "@afor k in 0 .. 0 { let x = 1; }", 1);
        pays(NAMES + "@alet x = @b1;", 1, 32);
        pays(NAMES + "@aoutput @b-1;", 1, 32);
        pays(NAMES + "@au = @b255;", 1, 8);
        pays(NAMES + "@ai = (@b-16);", 1, 5);
        pays(NAMES + "@alet x = u; @blet y = u; @clet z = u;", 1, 1, 1);
    }

    private static void loops() {
        pays(NAMES + "@afor @bk in 0 .. 1 { }", 1, 1);
        pays(NAMES + "@afor @bk in 0 .. 256 { }", 1, 256);
        pays(NAMES + "@afor @bk in 7 .. 8 { @cu = u; }", 1, 1, 1);
        pays(NAMES + "@afor @b@dk in 0 .. 2 { @c@eu = u; }", 1, 1, 1, 1, 1);
        pays(NAMES + "@afor @b@ek in 0 .. 2 { @c@flet x = @d@gk; }", 1, 1, 1, 32, 1, 1, 32);
        pays(NAMES + "@afor @b@ek in 0 .. 2 { @c@ffor @d@gj in 0 .. 1 { } }", 1, 1, 1, 1, 1, 1, 1);
    }

    private static void signs() {
        String[] plain = {"+", "-", "&", "|", "^", "==", "!=", "<", "<=", ">", ">="};
        for (String sign : plain) {
            pays(NAMES + "@alet x = u @b" + sign + " u;", 1, 8);
            pays(NAMES + "@alet x = i @b" + sign + " i;", 1, 5);
            pays(NAMES + "@alet x = u @c" + sign + " @b1;", 1, 8, 8);
            pays(NAMES + "@alet x = @b1 @c" + sign + " v;", 1, 3, 3);
            pays(NAMES + "@alet x = @b1 @d" + sign + " @c2;", 1, 32, 32, 32);
        }
        String[] alike = {"&", "|", "^", "==", "!=", "&&", "||"};
        for (String sign : alike) {
            pays(NAMES + "@alet x = b @b" + sign + " b;", 1, 1);
        }
        pays(NAMES + "@alet x = b @b&& b @c&& b;", 1, 1, 1);
        pays(NAMES + "@alet x = b @c|| b @b&& b;", 1, 1, 1);
        pays(NAMES + "@alet x = u @b* u;", 1, 64);
        pays(NAMES + "@alet x = i @b* i;", 1, 25);
        pays(NAMES + "@alet x = u @b/ u;", 1, 128);
        pays(NAMES + "@alet x = v @b% v;", 1, 18);
        pays(NAMES + "@alet x = i @b/ i @c% i;", 1, 50, 50);
        pays(NAMES + "@alet x = @b3 @d* @c3;", 1, 32, 32, 1024);
        pays(NAMES + "@alet x = @b3 @d/ @c3;", 1, 32, 32, 2048);
        pays(NAMES + "@alet x = w @b* w;", 1, 1024);
        pays(NAMES + "@alet x = u @c+ u @b* u;", 1, 64, 8);
    }

    private static void signsAhead() {
        pays(NAMES + "@alet x = @b-u;", 1, 8);
        pays(NAMES + "@alet x = @c-@b-i;", 1, 5, 5);
        pays(NAMES + "@alet x = @b~u;", 1, 8);
        pays(NAMES + "@alet x = @b~b;", 1, 1);
        pays(NAMES + "@alet x = @b!b;", 1, 1);
        pays(NAMES + "@alet x = @c!@b!b;", 1, 1, 1);
        pays(NAMES + "@alet x = @c~@b1;", 1, 32, 32);
        pays(NAMES + "@alet x = @c~@b-1;", 1, 32, 32);
        pays(NAMES + "@alet x = @d-@c~@b1;", 1, 32, 32, 32);
        pays(NAMES + "@alet x = @b- - -(1);", 1, 32);
    }

    private static void shifts() {
        pays(NAMES + "@alet x = u @b<< 3;", 1, 8);
        pays(NAMES + "@alet x = i @b>> 999999999999999999;", 1, 5);
        pays(NAMES + "@alet x = u @b<< v;", 1, 24);
        pays(NAMES + "@alet x = i @b>> u;", 1, 40);
        pays(NAMES + "@alet x = v @b>> u;", 1, 24);
        pays(NAMES + "@alet x = @b1 @c<< 3;", 1, 32, 32);
        pays(NAMES + "@alet x = @b1 @c>> v;", 1, 32, 96);
        pays(NAMES + "@alet x = u @b<< 1 @c<< 1;", 1, 8, 8);
    }

    private static void casts() {
        pays(NAMES + "@alet x = u64@b(u);", 1, 72);
        pays(NAMES + "@alet x = u1@b(u);", 1, 9);
        pays(NAMES + "@alet x = bool@b(u);", 1, 9);
        pays(NAMES + "@alet x = i9@b(b);", 1, 10);
        pays(NAMES + "@alet x = bool@b(b);", 1, 2);
        pays(NAMES + "@alet x = u8@c(@b1);", 1, 32, 40);
        pays(NAMES + "@alet x = bool@c(@b-1);", 1, 32, 33);
        pays(NAMES + "@alet x = u4@c(u5@b(u));", 1, 13, 9);
    }

    private static void rows() {
        pays(NAMES + "@alet x = @b[u];", 1, 8);
        pays(NAMES + "@alet x = @b[u, u];", 1, 16);
        pays(NAMES + "@alet x = @b[b, b, b];", 1, 3);
        pays(NAMES + "@alet x = @c[u, @b1];", 1, 8, 16);
        pays(NAMES + "@alet x = @d[@b1, u, @c1];", 1, 8, 8, 24);
        pays(NAMES + "@alet x = @d[@b1, @c2];", 1, 32, 32, 64);
        pays(NAMES + "@alet x = @c[u @b+ u, u];", 1, 8, 16);
        pays(NAMES + "@alet x = @b[u" + Kit.times(", u", 31) + "];", 1, 256);
    }

    private static void indexes() {
        pays(NAMES + "@alet x = r@b[0];", 1, 8);
        pays(NAMES + "@alet x = r@b[-2147483648];", 1, 8);
        pays(NAMES + "@alet x = q@b[2];", 1, 1);
        pays(NAMES + "@alet x = r@b[v];", 1, 4 * (8 + 3));
        pays(NAMES + "@alet x = r@b[i];", 1, 4 * (8 + 5));
        pays(NAMES + "@alet x = q@b[u];", 1, 3 * (1 + 8));
        pays(NAMES + "@alet x = q@b[w];", 1, 3 * (1 + 32));
        pays(NAMES + "@alet x = r@c[r@b[0]];", 1, 8, 4 * (8 + 8));
        pays(NAMES + "@alet x = @b[u, u]@c[1];", 1, 16, 8);
        pays(NAMES + "@alet x = r@e[@b1 @d+ @c1];", 1, 32, 32, 32, 4 * (8 + 32));
        pays(NAMES + "@afor @bk in 0 .. 1 { @clet x = r@d[k]; @elet y = r@f[-k]; }", 1, 1, 1, 8, 1, 8);
    }

    private static void assignments() {
        pays(NAMES + "@ar@b[0] = u;", 1, 32);
        pays(NAMES + "@ar@b[99] = u;", 1, 32);
        pays(NAMES + "@aq@b[0] = b;", 1, 3);
        pays(NAMES + "@ar@c[0] = @b1;", 1, 8, 32);
        pays(NAMES + "@ar@b[v] = u;", 1, 4 * (8 + 3));
        pays(NAMES + "@ar@b[i] = u;", 1, 4 * (8 + 5));
        pays(NAMES + "@aq@b[u] = b;", 1, 3 * (1 + 8));
        pays(NAMES + "@ar@c[v] = @b1;", 1, 8, 4 * (8 + 3));
        pays(NAMES + "@ar@d[v @b+ v] = u @c+ u;", 1, 3, 8, 4 * (8 + 3));
    }

    private static void assignmentsWithinIfs() {
        pays(NAMES + "@aif b { @b@cu = u; }", 1, 1, 8);
        pays(NAMES + "@aif b { @b@cr = r; }", 1, 1, 32);
        pays(NAMES + "@aif b { } else { @b@cu = u; }", 1, 1, 8);
        pays(NAMES + "@aif b { @b@du = @c1; }", 1, 1, 8, 8);
        pays(NAMES + "@aif b { @b@dr@c[0] = u; }", 1, 1, 32, 32);
        pays(NAMES + "@aif b { @b@dr@c[v] = u; }", 1, 1, 44, 32);
        pays(NAMES + "@aif b { @b@er@d[v] = @c1; }", 1, 1, 8, 44, 32);
        pays(NAMES + "@aif b { @bif b { @c@du = u; } }", 1, 1, 1, 8);
        pays(NAMES + "@aif b { @bfor @ck in 0 .. 1 { @d@eu = u; } }", 1, 1, 1, 1, 8);
        pays(NAMES + "@aif b { @blet x = u; @c@dx = u; }", 1, 1, 1, 8);
        pays(NAMES + "@aif b { @b@cu = u; } @du = u;", 1, 1, 8, 1);
        pays(NAMES + "@aif b { @bif b { } @c@du = u; }", 1, 1, 1, 8);
        pays(NAMES + "@aif b { @bif b { } else { } @c@du = u; } else { @e@fv = v; } @gv = v;", 1, 1, 1, 8, 1, 3, 1);
    }

    private static void calls() {
        pays("fn f() bool { return true; } " + NAMES + "@alet x = @bf();", 1, 1);
        pays("fn f(a u8) u8 { return a; } " + NAMES + "@alet x = @bf(u);", 1, 2);
        pays("fn f(a u8, c bool) u8 { return a; } " + NAMES + "@alet x = @bf(@c1, b);", 1, 3, 8);
        pays("fn f(a u8, c u3) u8 { return a; } " + NAMES + "@alet x = @bf(u @c+ u, @d1);", 1, 3, 8, 3);
        pays("fn f() u8 { return @c1; } " + NAMES + "@alet x = @bf();", 1, 1, 8);
        pays("fn f(a u8) u8 { @ca = a; @dlet c = a; return c @e+ a; } " + NAMES + "@alet x = @bf(u);", 1, 2, 1, 1, 8);
        pays("fn f(a u8) u8 { return a; } fn g(a u8) u8 { return @cf(a); } " + NAMES + "@alet x = @bg(u);", 1, 2, 2);
        pays("fn f(a u8) u8 { return a; } " + NAMES + "@alet x = @bf(@cf(u));", 1, 2, 2);
        pays("fn f(a u8) u8 { return a; } " + NAMES + "@alet x = @bf(u) @d+ @cf(u);", 1, 2, 2, 8);
        pays("fn f(a u1, b u1, c u1, d u1, e u1, f u1, g u1, h u1) u1 { return a; } alice a u1; $ "
            + "@alet x = @bf(a, a, a, a, a, a, a, a);", 1, 9);
    }

    private static void callsWithinIfs() {
        String f = "fn f(a u8) u8 { @d@ea = a; return a; } ";
        pays(f + NAMES + "@aif b { @blet x = @cf(u); }", 1, 1, 2, 1, 8);
        pays("fn f(a u8) u8 { @ca = a; return a; } " + NAMES + "@alet x = @bf(u); @dif b { }", 1, 2, 1, 1);
        pays("fn f(a u8) u8 { @e@fa = a; return a; } fn g(a u8) u8 { return @df(a); } " + NAMES
            + "@aif b { @blet x = @cg(u); }", 1, 1, 2, 2, 1, 8);
        pays("fn f(a u8[2]) u8 { @d@ga@f[0] = @e3; return a@h[1]; } alice s u8[2]; bob b bool; $ "
            + "@aif b { @blet x = @cf(s); }", 1, 1, 2, 1, 8, 16, 16, 8);
    }

    private static void whatCostsNothing() {
        pays(NAMES + "@alet x = true;", 1);
        pays(NAMES + "@alet x = (((u)));", 1);
        pays(NAMES + "@alet x = u; @boutput x; @coutput q;", 1, 1, 1);
        pays(NAMES + "@alet x = r@b[(((---1)))];", 1, 8);
        pays(NAMES + "@alet x = u @b<< (---(-(3)));", 1, 8);
        Kit.compiled("alice a u64[15]; bob b u64[15]; " + Kit.spending(3000));
        Kit.answers("alice a u64[15]; " + Kit.spending(3001), 6, ("alice a u64[15]; " + Kit.spending(3001)).length()
            - "zz in 0 .. 172 { } ".length());
    }

    /** 3000 in one sign: w w, 2 w w and w times bits come near it; one step more is too much. */
    private static void costsOfOneSign() {
        Kit.compiled("alice a u54; output a * a;");
        Kit.fault(6, "alice a u55; output a @* a;");
        Kit.compiled("alice a i38; output a / a;");
        Kit.fault(6, "alice a i39; output a @/ a;");
        Kit.compiled("alice a u38; output a % a;");
        Kit.fault(6, "alice a u39; output a @% a;");
        Kit.compiled("alice a u64; bob n u46; output a << n;");
        Kit.fault(6, "alice a u64; bob n u47; output a @<< n;");
        Kit.compiled("alice r u31[32]; bob n u62; let x = r[n];");
        Kit.fault(6, "alice r u31[32]; bob n u63; let x = r@[n];");
        Kit.compiled("alice r u31[32]; bob n u61; r[n] = 1;");
        Kit.fault(6, "alice r u31[32]; bob n u62; r@[n] = 1;");
        Kit.fault(6, "alice a u64; alice b u64; output a @* b * a;");
    }

    private static String named(int n) {
        return "" + (char) ('A' + n / 26) + (char) ('a' + n % 26) + "_";
    }

    private static void bitsOfInputs() {
        String[] parties = {"alice", "bob"};
        for (int party = 0; party < 2; party++) {
            String one = parties[party] + " ";
            String other = parties[1 - party] + " ";
            String most = one + "a u64[15]; ";
            Kit.compiled(most + one + "b u39;");
            Kit.compiled(most + one + "b u40;");
            Kit.fault(6, most + one + "@b u41;");
            Kit.fault(6, most + one + "@b u42;");
            Kit.fault(6, most + one + "b u40; " + one + "@c bool;");
            Kit.compiled(most + one + "b u40; " + other + "c u64[15]; " + other + "d u40;");
            Kit.fault(6, most + one + "b u40; " + other + "c u64[15]; " + other + "@d u41;");
            Kit.fault(6, most + other + "c u64[15]; " + one + "b u40; " + one + "@d u1;");
            Kit.compiled(one + "a u31[32]; " + one + "b u8;");
            Kit.fault(6, one + "a u31[32]; " + one + "@b u9;");
            Kit.fault(6, one + "@a u32[32];");
            Kit.fault(6, one + "@a u64[32];");
            Kit.compiled(one + "a u40[25];");
            Kit.fault(6, one + "@a i39[26];");
            Kit.fault(6, most + one + "b u40; " + one + "@c u1[1]; output x;");
            Kit.compiled(one + "a i50[10]; " + one + "b i50[10];");
            Kit.fault(6, one + "a i50[10]; " + one + "@b i51[10];");
            SecretHouse house = Kit.compiled(most + one + "b u40;");
            int sum = 0;
            for (int k = 0; k < house.count(party); k++) {
                sum += house.bits(party, k);
            }
            Kit.due("bits of all ELEMENTS", sum, 1000);
        }
    }

    private static void elementsOfInputs() {
        String[] parties = {"alice ", "bob "};
        for (int party = 0; party < 2; party++) {
            StringBuilder singles = new StringBuilder();
            for (int n = 0; n < 255; n++) {
                singles.append(parties[party]).append(named(n)).append(" u1;");
            }
            String one = parties[party];
            Kit.due("255 ELEMENTS", Kit.compiled(singles.toString()).count(party), 255);
            Kit.due("256 ELEMENTS", Kit.compiled(singles + one + "x bool;").count(party), 256);
            Kit.fault(6, singles + one + "x bool;" + one + "@y bool;");
            Kit.due("256 ELEMENTS", Kit.compiled(singles + one + "x bool[1];").count(party), 256);
            Kit.fault(6, singles + one + "@x bool[2];");
            StringBuilder rows = new StringBuilder();
            for (int n = 0; n < 7; n++) {
                rows.append(one).append("r").append(n).append(" u3[32]; ");
            }
            Kit.due("255 ELEMENTS", Kit.compiled(rows + one + "x u3[31];").count(party), 255);
            Kit.due("256 ELEMENTS", Kit.compiled(rows + one + "x u3[32];").count(party), 256);
            Kit.fault(6, rows + one + "x u3[31]; " + one + "@y u3[2];");
            Kit.fault(6, rows + one + "x u3[32]; " + one + "@y u3;");
            SecretHouse house = Kit.compiled(rows + one + "x u3[32]; " + parties[1 - party] + "y u3[32]; output y;");
            Kit.due("ELEMENTS of the other", house.count(1 - party), 32);
            house.give(party, 255, 0, 5);
            Kit.due("the 257th throws", Kit.giveThrows(house, party, 256), true);
        }
    }

    private static void bitsOfOutputs() {
        Kit.due("999 bits", Kit.compiled("alice a u64[15]; bob b u39; output a; output b;").count(3), 999);
        Kit.due("1000 bits", Kit.compiled("alice a u64[15]; bob b u40; output a; output b;").count(3), 1000);
        Kit.fault(6, "alice a u64[15]; bob b u41; output a; @output b;");
        Kit.fault(6, "alice a u64[15]; bob b u40; output a; output b; @output true;");
        Kit.fault(6, "alice a u64[15]; bob b u20; output a; for k in 0 .. 3 { @output b; }");
        Kit.compiled("alice a u64[15]; bob b u20; output a; for k in 0 .. 2 { output b; }");
        Kit.compiled("alice a u50[10]; bob b u50[10]; output a; output b;");
        Kit.fault(6, "alice a u50[10]; bob b u51[10]; output a; @output b;");
        Kit.fault(6, "alice a u50[10]; bob b u50[10]; output a; output b; @output [true];");
        Kit.fault(6, "let a = [1" + Kit.times(", 1", 31) + "]; @output a;");
        Kit.fault(6, "let a = [1" + Kit.times(", 1", 30) + "]; output a; @output 1;");
        Kit.compiled("let a = [1" + Kit.times(", 1", 30) + "]; output a; output u8(1);");
    }

    private static void elementsOfOutputs() {
        Kit.due("255 outputs", Kit.compiled("for k in 0 .. 255 { output true; }").count(2), 255);
        Kit.due("256 outputs", Kit.compiled("for k in 0 .. 256 { output true; }").count(2), 256);
        Kit.fault(6, "for k in 0 .. 256 { output true; } @output true;");
        Kit.fault(6, "for k in 0 .. 255 { output true; } @output [true, true];");
        Kit.compiled("for k in 0 .. 255 { output true; } output [true];");
        Kit.fault(6, "for k in 0 .. 256 { output true; } @output [true];");
        String rows = "alice a u3[32]; for k in 0 .. 7 { output a; } ";
        Kit.due("255 outputs", Kit.compiled(rows + "for k in 0 .. 31 { output true; }").count(2), 255);
        Kit.due("256 outputs", Kit.compiled(rows + "output a;").count(2), 256);
        Kit.fault(6, rows + "output a; @output true;");
        Kit.fault(6, rows + "output true; @output a;");
        SecretHouse house = Kit.compiled(rows + "output a;");
        Kit.due("run", house.run(), true);
        Kit.due("the 256th", house.value(255), 0);
        Kit.due("the 257th throws", Kit.valueThrows(house, 256), true);
        Kit.due("its bits throw", Kit.bitsThrows(house, 2, 256), true);
    }

    private static void outputsAreCountedWhenTheyAreDone() {
        Kit.compiled("alice a u64[15]; for k in 0 .. 0 { output a; output a; } output a;");
        Kit.fault(6, "alice a u64[15]; output a; for k in 0 .. 1 { @output a; }");
        Kit.fault(3, "alice a u64[15]; output a; output a[0] + @x;");
        Kit.fault(5, "alice a u64[15]; output a; output a[0] + @-1;");
        Kit.fault(4, "alice a u64[15]; output a; if true { @output a; }");
    }
}
