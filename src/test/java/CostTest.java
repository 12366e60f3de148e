/** Promises 4 and 6: the COST of everything, the other limits, and where FAULT 6 is. */
public final class CostTest {
    private static final String NAMES = "alice u u8; alice v u3; alice i i5; bob b bool; bob r u8[4]; bob q bool[3]; ";
    private static final String FNS = "fn f() bool { return true; } fn g(a u8, b bool) u8 { return a; } "
        + "fn h(a u8) u8 { a = a; return 3; } ";

    public static void main(String[] args) {
        costsOfStatements();
        costsOfExpressions();
        costsOfIndexes();
        costsOfCalls();
        costsWithinIfs();
        placesOfStatements();
        placesOfExpressions();
        inputsLimits();
        outputsLimits();
        Kit.finish();
    }

    /** The statements cost just so much. */
    private static void costs(int cost, String statements) {
        Kit.compiled(FNS + NAMES + statements + Kit.spending(3000 - cost));
        String text = FNS + NAMES + statements + Kit.spending(3001 - cost);
        SecretHouse house = new SecretHouse();
        Kit.feed(house, text);
        Kit.due("kind with 3001 of " + statements, house.compile(), 6);
    }

    /** The mark is where the last unit of the statements' cost is counted. */
    private static void pays(int cost, String statements) {
        Kit.fault(6, FNS + NAMES + Kit.spending(3001 - cost) + statements);
    }

    private static void costsOfStatements() {
        costs(0, "");
        costs(1, "let x = u;");
        costs(1 + 32, "let x = 1;");
        costs(1 + 8, "u = 1;");
        costs(1, "u = u;");
        costs(1, "r = r;");
        costs(1, "output r;");
        costs(1, "if b { }");
        costs(3, "if b { let x = u; } else { let y = r; }");
        costs(1, "for k in 5 .. 5 { let x = 1; }");
        costs(1 + 3, "for k in 0 .. 3 { }");
        costs(1 + 3 * (1 + 1 + 32), "for k in 0 .. 3 { let x = k; }");
        costs(1 + 2 * (1 + 1 + 3 * (1 + 1)), "for k in 0 .. 2 { for j in 7 .. 10 { u = u; } }");
    }

    private static void costsOfExpressions() {
        String[] plain = {"+", "-", "&", "|", "^", "==", "!=", "<", "<=", ">", ">="};
        for (String sign : plain) {
            costs(1 + 8, "let x = u " + sign + " u;");
            costs(1 + 5, "let x = i " + sign + " i;");
            costs(1 + 8 + 8, "let x = u " + sign + " 1;");
            costs(1 + 8 + 8, "let x = 1 " + sign + " u;");
            costs(1 + 32 + 32 + 32, "let x = 1 " + sign + " 1;");
        }
        costs(1 + 1, "let x = b & b;");
        costs(1 + 1, "let x = b == b;");
        costs(1 + 1, "let x = b && b;");
        costs(1 + 1, "let x = b || b;");
        costs(1 + 1, "let x = !b;");
        costs(1 + 1, "let x = ~b;");
        costs(1 + 8, "let x = ~u;");
        costs(1 + 8, "let x = -u;");
        costs(1 + 32, "let x = -1;");
        costs(1 + 32, "let x = - - -(1);");
        costs(1 + 32 + 32, "let x = ~1;");
        costs(1 + 64, "let x = u * u;");
        costs(1 + 128, "let x = u / u;");
        costs(1 + 128 + 8, "let x = u % 3;");
        costs(1 + 50, "let x = i / i;");
        costs(1 + 32 + 32 + 1024, "let x = 3 * 3;");
        costs(1 + 8, "let x = u << 3;");
        costs(1 + 8, "let x = u >> 999;");
        costs(1 + 8 * 3, "let x = u << v;");
        costs(1 + 5 * 8, "let x = i >> u;");
        costs(1 + 32 + 32, "let x = 1 << 3;");
        costs(1 + 32 + 32 * 3, "let x = 1 << v;");
        costs(1 + 64 + 8, "let x = u64(u);");
        costs(1 + 1 + 8, "let x = bool(u);");
        costs(1 + 8 + 1, "let x = u8(b);");
        costs(1 + 8 + 8, "let x = u8(u);");
        costs(1 + 32 + 8 + 32, "let x = u8(1);");
        costs(1 + 16, "let x = [u, u];");
        costs(1 + 16 + 8, "let x = [u, 1];");
        costs(1 + 24 + 16, "let x = [1, u, 1];");
        costs(1 + 64 + 64, "let x = [1, 2];");
        costs(1 + 1, "let x = [b];");
        costs(1, "let x = (((u)));");
        costs(1, "let x = true;");
    }

    private static void costsOfIndexes() {
        costs(1 + 8, "let x = r[1];");
        costs(1 + 8, "let x = r[99];");
        costs(1 + 8, "let x = r[-1];");
        costs(1 + 1, "let x = q[0];");
        costs(1 + 4 * (8 + 3), "let x = r[v];");
        costs(1 + 4 * (8 + 5), "let x = r[i];");
        costs(1 + 3 * (1 + 8), "let x = q[u];");
        costs(1 + 32 + 32 + 32 + 4 * (8 + 32), "let x = r[1 + 1];");
        costs(1 + 32, "r[1] = u;");
        costs(1 + 32, "r[77] = u;");
        costs(1 + 32 + 8, "r[1] = 5;");
        costs(1 + 4 * (8 + 3), "r[v] = u;");
        costs(1 + 4 * (8 + 3) + 8, "r[v] = 5;");
        costs(1 + 3 * (1 + 5), "q[i] = b;");
        costs(1 + 3, "q[2] = b;");
        costs(1 + 1 + 2 * (1 + 8), "for k in 2 .. 3 { let x = r[k]; let y = r[-k]; }");
    }

    private static void costsOfCalls() {
        costs(1 + 1, "let x = f();");
        costs(1 + 3, "let x = g(u, b);");
        costs(1 + 3 + 8, "let x = g(1, b);");
        costs(1 + 2 + 1 + 8, "let x = h(u);");
        costs(1 + 2 + 8 + 1 + 8, "let x = h(1);");
        costs(1 + 3 + 2 + 1 + 8 + 1, "let x = g(h(u), f());");
    }

    private static void costsWithinIfs() {
        costs(1 + 1 + 8, "if b { u = u; }");
        costs(1 + 1 + 32, "if b { r = r; }");
        costs(1 + 1 + 8 + 8, "if b { u = 1; }");
        costs(1 + 1 + 32 + 32, "if b { r[0] = u; }");
        costs(1 + 1 + 4 * (8 + 3) + 32, "if b { r[v] = u; }");
        costs(2 + 1 + 8, "if b { if b { u = u; } }");
        costs(1 + 1 + 8, "if b { } else { u = u; }");
        costs(1 + 1 + 2 + 1 + 8 + 8, "if b { let x = h(u); }");
        costs(1 + 1 + 1 + 1, "if b { let x = b; x = b; }");
        costs(1 + 1 + 1 + 8, "if b { for k in 0 .. 0 { } u = u; }");
        costs(1 + 1, "if b { } u = u;");
        costs(1 + 1 + 1 + 8 + 1, "if b { for k in 0 .. 1 { u = u; } }");
    }

    private static void placesOfStatements() {
        pays(1, "@let x = y;");
        pays(1, "@output y;");
        pays(1, "@if x { }");
        pays(1, "@for u in 0 .. 999 { }");
        pays(1, "@x = 1;");
        pays(1, "@r[x] = 1;");
        pays(2, "for @k in 0 .. 3 { }");
        pays(3, "for k in 0 .. 3 { @u = 1; }");
        pays(4, "for @k in 0 .. 3 { u = u; }");
        pays(2, "if b { @output 1; }");
        pays(2, "if b { } else { @output 1; }");
        pays(33, "let x = @1;");
        pays(2, "let x = @1;");
        pays(2, "let x = @-1;");
        pays(2, "let u = @-(1);");
        pays(9, "u = @5;");
        pays(9, "output @5;");
        pays(2, "if b { @u = u; }");
        pays(3, "if b { @u = u; }");
        pays(10, "if b { @u = u; }");
        pays(2, "r@[0] = u;");
        pays(33, "r@[0] = u;");
        pays(2, "r[0] = @1;");
        pays(10, "r@[0] = 1;");
        pays(45, "r@[v] = u;");
        pays(34, "if b { r@[0] = u; }");
        pays(35, "if b { @r[0] = u; }");
        pays(66, "if b { @r[0] = u; }");
        pays(47, "if b { @r[v] = u; }");
    }

    private static void placesOfExpressions() {
        pays(2, "let x = u @+ u;");
        pays(9, "let x = u @+ u;");
        pays(2, "let x = u + @1;");
        pays(10, "let x = u @+ 1;");
        pays(2, "let x = @1 + u;");
        pays(2, "let x = @1 + 1;");
        pays(34, "let x = 1 + @1;");
        pays(66, "let x = 1 @+ 1;");
        pays(2, "let x = u @* u;");
        pays(2, "let x = u @/ u;");
        pays(130, "let x = u / u @% u;");
        pays(2, "let x = u @<< v;");
        pays(2, "let x = u @>> 1;");
        pays(2, "let x = @1 >> 1;");
        pays(2, "let x = @-u;");
        pays(2, "let x = @~u;");
        pays(2, "let x = @!b;");
        pays(2, "let x = ~@5;");
        pays(2, "let x = b @&& b;");
        pays(3, "let x = b && b @|| b;");
        pays(2, "let x = u9@(u);");
        pays(18, "let x = u9@(u);");
        pays(2, "let x = u9(@1);");
        pays(34, "let x = u9@(1);");
        pays(2, "let x = @[u, u];");
        pays(2, "let x = [u, @1];");
        pays(2, "let x = [@1, 1];");
        pays(34, "let x = [1, @1];");
        pays(66, "let x = @[1, 1];");
        pays(2, "let x = r@[0];");
        pays(2, "let x = r@[v];");
        pays(45, "let x = r@[v];");
        pays(2, "let x = @f();");
        pays(2, "let x = @g(x, y);");
        pays(4, "let x = @g(x, y);");
        pays(5, "let x = g(@1, y);");
        pays(12, "let x = g(@1, y);");
        pays(13, "let x = g(1, b) @+ u;");
    }

    private static void inputsLimits() {
        Kit.compiled("alice a u64[15]; bob b u64[15]; alice c u40; bob d u40;");
        Kit.fault(6, "alice a u64[15]; bob b u64[15]; alice @c u41; bob d u41;");
        Kit.fault(6, "alice a u64[15]; bob b u64[15]; alice c u40; bob d u40; bob @e bool;");
        Kit.fault(6, "alice @a u32[32];");
        Kit.compiled("alice a u31[32]; alice b u8;");
        Kit.fault(3, "alice a u64[15]; alice @a u64[15];");
        Kit.fault(4, "alice a u64[15]; alice b u64[@99];");
        StringBuilder many = new StringBuilder();
        for (int n = 0; n < 8; n++) {
            many.append("alice a").append(n).append(" bool[32]; bob b").append(n).append(" bool[32]; ");
        }
        SecretHouse house = Kit.compiled(many.toString());
        Kit.due("256 elements", house.count(0), 256);
        Kit.due("256 elements", house.count(1), 256);
        Kit.fault(6, many + "alice @c bool;");
        Kit.fault(6, many + "bob @c bool[1];");
        Kit.compiled(many + "for k in 0 .. 256 { output true; }");
        StringBuilder single = new StringBuilder();
        for (int n = 0; n < 256; n++) {
            single.append("bob ").append((char) ('A' + n / 20)).append((char) ('a' + n % 20)).append(" u1;");
        }
        Kit.compiled(single.toString());
        Kit.fault(6, single + "alice x u1; bob @y u1;");
    }

    private static void outputsLimits() {
        Kit.compiled("alice a u50[20]; output a;");
        Kit.fault(6, "alice a u50[20]; output a; @output true;");
        Kit.fault(6, "alice a u50[19]; bob b u51; output a; @output b;");
        Kit.fault(3, "alice a u50[20]; output a; output @x;");
        SecretHouse house = Kit.compiled("for k in 0 .. 256 { output true; }");
        Kit.due("256 outputs", house.count(2), 256);
        Kit.due("256 bits", house.count(3), 256);
        Kit.fault(6, "for k in 0 .. 256 { output true; } @output true;");
        Kit.fault(6, "alice a bool[32]; for k in 0 .. 8 { output a; } @output a;");
        Kit.fault(6, "alice a bool[32]; for k in 0 .. 7 { output a; } output true; @output a;");
        Kit.fault(6, "bob b bool; for k in 0 .. 17 { @output u60(b); }");
    }
}
