/** Full texts, as much as 4000 bytes and a COST of 3000 hold, and 24 texts of one object behind one another. */
public final class EdgeTurnsTest {
    /** A program with some of everything, and what it tells when 5 and 3 are given. */
    private static final String GOOD = "fn f(a u8) u8 { let t = a; if a < 9 { t = t + 1; } return t; } alice a u8; bob b u8; "
        + "let r = [a, b, 7]; for k in 0 .. 2 { r[k] = f(r[k]); } if a < b { a = 1; } else { b = 2; } output a; output b; "
        + "output r; output f(a) - f(b) * 2;";

    public static void main(String[] args) {
        asManyWordsAsBytes();
        asManyStepsAsBytes();
        asManyFnsAsBytes();
        for (int amount = 1; amount <= 8; amount++) {
            asManyParametersAsBytes(amount);
        }
        asManyNamesAsBytes();
        asManySignsThatWait();
        asManyStatementsAsCost();
        asManyGatesAsCost();
        faultsLeaveNothingBehind();
        fnsOfEarlierTexts();
        namesOfEarlierTexts();
        fullTextsBehindOneAnother();
        gatesOfEarlierCircuits();
        Kit.finish();
    }

    private static void good(String when, SecretHouse house) {
        Kit.feed(house, GOOD);
        Kit.due("compile " + when, house.compile(), 0);
        Kit.due("place " + when, house.place(), SecretHouse.NONE);
        Kit.tellsWith("the program " + when, house, new long[] {5, 3}, 5, 2, 6, 4, 7, 0);
        Kit.tellsWith("the program " + when, house, new long[] {10, 20}, 1, 20, 10, 20, 7, 2 - 40 & 255);
    }

    private static void asManyWordsAsBytes() {
        Kit.answers(Kit.times("a=a;", 1000), 3, 0);
        Kit.answers(Kit.times("a=a;", 999) + "a=a+", 2, 4000);
        Kit.answers(Kit.times("a=a;", 999) + "a=a", 2, 3999);
        Kit.answers(Kit.times("a=a;", 999) + "a=a$", 1, 3999);
        Kit.answers(Kit.times(";", 4000), 2, 0);
        Kit.answers(Kit.times("x ", 2000), 2, 2);
        Kit.answers("let a=true;" + Kit.times("a=a;", 997), 0, -1);
    }

    private static void asManyStepsAsBytes() {
        String[] parts = {"[a]", "-a+", "f(a)+", "a+", "f()+", "f(-a)+", "[a]+", "a[a]+", "f(a,a)+", "f(a)[a]+"};
        for (String part : parts) {
            String open = "for k in 0 .. 0 { x=y";
            String close = "; } output true;";
            int times = (4000 - open.length() - close.length() - 2) / part.length();
            String e = part.startsWith("[a]") && !part.endsWith("+") ? Kit.times(part, times) : "+" + Kit.times(part, times) + "a";
            Kit.tells(open + e + close, 1);
        }
        String[] statements = {"a=a;", "a[a]=a;", "if a{}", "for b in 0..0{}", "output a;", "let b=a;", "a[f(a)]=f();"};
        for (String s : statements) {
            String open = "for k in 0 .. 0 { ";
            String close = "} output true;";
            Kit.tells(open + Kit.times(s, (4000 - open.length() - close.length()) / s.length()) + close, 1);
        }
    }

    private static String named(int n) {
        return n < 52 ? "" + letter(n) : "" + letter((n - 52) / 52) + letter((n - 52) % 52);
    }

    private static char letter(int n) {
        return (char) (n < 26 ? 'a' + n : 'A' + n - 26);
    }

    /** A NAME of its own for each n; in, if and fn are none. */
    private static String free(int n) {
        String name = named(n);
        return name.equals("if") || name.equals("in") || name.equals("fn") ? name + "_" : name;
    }

    private static void asManyFnsAsBytes() {
        StringBuilder text = new StringBuilder();
        int n = 0;
        while (text.length() < 3900) {
            text.append("fn ").append(free(n)).append("()u1{return ").append(n % 2).append(";}");
            n++;
        }
        Kit.due("FNs", n > 190, true);
        for (int k = n - 4; k < n; k++) {
            Kit.tells(text + "output " + free(k) + "();", k % 2);
        }
        Kit.tells(text + "output " + free(0) + "();", 0);
        Kit.fault(3, text + "output @" + free(n) + "();");
        Kit.fault(3, text + "fn @" + free(n - 1) + "()u1{return 1;}");
        Kit.fault(3, text + "fn @a()u1{return 1;}");
    }

    /** Each FN has Ps of a TYPE of its own, and returns the last of them. */
    private static void asManyParametersAsBytes(int amount) {
        StringBuilder text = new StringBuilder();
        int n = 0;
        for (; text.length() < 3800; n++) {
            String type = "u" + (n % 9 + 1);
            text.append("fn ").append(free(n)).append('(');
            for (int k = 0; k < amount; k++) {
                text.append(k == 0 ? "" : ",").append(letter(k)).append(' ').append(type);
            }
            text.append(')').append(type).append("{return ").append(letter(amount - 1)).append(";}");
        }
        Kit.due("FNs with " + amount + " Ps", n > 3800 / (26 + 5 * amount), true);
        for (int k = n - 9; k < n; k++) {
            int bits = k % 9 + 1;
            long most = (1 << bits) - 1;
            String call = free(k) + "(" + Kit.times("0,", amount - 1);
            Kit.tells(text + "output " + call + most + ");", most);
            Kit.fault(5, text + "output " + call + "@" + (most + 1) + ");");
            Kit.fault(4, text + "output " + call + "@true);");
            Kit.fault(4, text + "output @" + call + "1,1);");
        }
        String twice = amount == 8 ? "a u1,b u1,@b u1" : "a u1,@a u1";
        Kit.fault(3, text + "fn zz(" + twice + ")u1{return a;}");
    }

    private static void asManyNamesAsBytes() {
        StringBuilder text = new StringBuilder("alice a u1;");
        int n = 1;
        while (text.length() < 3900) {
            text.append("let ").append(free(n)).append(n % 2 == 0 ? "=a;" : "=~a;");
            n++;
        }
        Kit.due("NAMES", n > 390, true);
        Kit.tells(text + "output " + free(n - 1) + ";output " + free(n - 2) + ";output b;output a;", (n - 1) % 2, n % 2, 1, 0);
        Kit.fault(3, text + "output @" + free(n) + ";");
        Kit.fault(3, text + "let @" + free(n - 1) + "=a;");
        StringBuilder fns = new StringBuilder("fn z0(a u1,b u1,c u1,d u1,e u1,f u1,g u1,h u1)u1{return h;}");
        for (int k = 1; k <= 20; k++) {
            fns.append("fn z").append(k).append("(a u1,b u1,c u1,d u1,e u1,f u1,g u1,h u1)u1{let t=z").append(k - 1)
                .append("(h,a,b,c,d,e,f,g);return t;}");
        }
        Kit.tells(fns + "output z20(1,0,0,0,0,0,0,0);output z20(0,0,0,1,0,0,0,0);output z3(0,0,0,0,1,0,0,0);", 0, 1, 1);
    }

    /** In each of 40 ( ) one sign of each binding waits. */
    private static void asManySignsThatWait() {
        String signs = "b || b && b | b ^ b & b == u < u << u + u * ";
        StringBuilder text = new StringBuilder("bob b bool; bob u u4; for k in 0 .. 0 { let x = ");
        for (int n = 0; n < 39; n++) {
            text.append(signs).append('(');
        }
        text.append(signs).append('u').append(Kit.times(")", 39)).append("; } output true;");
        Kit.tells(text.toString(), 1);
        SecretHouse house = new SecretHouse();
        for (int turn = 0; turn < 23; turn++) {
            Kit.feed(house, text.substring(0, text.indexOf("u)")));
            Kit.due("compile of what is cut", house.compile(), 2);
        }
        Kit.feed(house, text.toString());
        Kit.due("compile behind 23 that were cut", house.compile(), 0);
        Kit.tells("signs that wait", house, 1);
    }

    private static void asManyStatementsAsCost() {
        String[] done = {"a = a;", "let t = a;", "if b { }", "if b { } else { }", "let t = r;", "r = r;"};
        for (String s : done) {
            String text = "alice a u1; bob b bool; bob r u4[2]; for k in 0 .. 5 { for j in 0 .. 256 { " + s
                + " } } let c = ~a; if b { c = a; } output c; output c ^ ~c; output r[1];";
            SecretHouse house = Kit.compiled(text);
            Kit.tellsWith(text, house, new long[] {0, 0, 4, 9}, 1, 1, 9);
            Kit.tellsWith(text, house, new long[] {0, 1, 4, 9}, 0, 1, 9);
        }
        String calls = "fn f() bool { return true; } alice a u1; for k in 0 .. 3 { for j in 0 .. 256 { let t = f(); } } "
            + "output f() && f(); output ~a;";
        Kit.tells(calls, 1, 1);
        String elements = "bob r bool[1]; for k in 0 .. 3 { for j in 0 .. 255 { r[0] = !r[0]; } } output r;";
        Kit.fault(6, elements.replace("r[0] = !r[0]", "r[0] = @!r[0]").replace("3 {", "4 {"));
        SecretHouse house = Kit.compiled(elements.replace("3 {", "2 {"));
        Kit.tellsWith(elements, house, new long[] {0}, 0);
        Kit.tellsWith(elements, house, new long[] {1}, 1);
    }

    /** The most gates that a COST of 3000 makes, of each sort of sign, told right to the last. */
    private static void asManyGatesAsCost() {
        String[] types = {"u1", "i2", "u3", "i4", "u8", "i13"};
        String[] signs = {"+", "-", "*", "/", "%", "^", "&", "|"};
        for (String type : types) {
            int w = Integer.parseInt(type.substring(1));
            for (String sign : signs) {
                int each = sign.equals("*") ? w * w : sign.equals("/") || sign.equals("%") ? 2 * w * w : w;
                int rounds = Math.min(256, 2990 / (8 * each + 2));
                StringBuilder e = new StringBuilder("c");
                for (int n = 0; n < 8; n++) {
                    e.append(' ').append(sign).append(" b");
                }
                String text = "alice a " + type + "; bob b " + type + "; let c = a; for k in 0 .. " + rounds + " { c = " + e
                    + "; } output c;";
                Oracle oracle = new Oracle(text);
                Kit.due("kind of " + text, oracle.kind, 0);
                SecretHouse house = Kit.compiled(text);
                long[][] given = new long[2][256];
                for (int n = 0; n < 4; n++) {
                    given[0][0] = 0x5DEECE66DL >>> n;
                    given[1][0] = n * 3 + 1;
                    oracle.perform(given);
                    Kit.tellsWith(text, house, new long[] {given[0][0], given[1][0]}, oracle.told.get(0));
                }
            }
        }
    }

    /** A FAULT in the midst of all that can be open, then a good text of the same object. */
    private static void faultsLeaveNothingBehind() {
        String fns = "fn f(a u8) u8 { if a < 9 { for k in 0 .. 2 { let t = a + (a * x); } } return a; } "
            + "fn g(a u8, b u8) u8 { if true { a = f(f(a) + b); } return a; } ";
        String[] faults = {"if true { output 1; }", "if true { } else { if true { x = 1; } }", "for k in 0 .. 3 { let t = x; }",
            "for k in 0 .. 3 { if true { for j in 1 .. 2 { let t = 99999999999; } } }",
            fns + "alice a u8; let r = [a, a + g(a, a * x)];", fns + "alice a u8; let r = [a, a + g(a, a)];",
            fns + "alice a u8; if true { let r = (a + (a + (a + g(a, a)))); }",
            fns + "alice a u8; output " + Kit.times("(", 15) + "g(1, 2)" + Kit.times(")", 15) + ";",
            "let t = true; output [t" + Kit.times(",t", 1980) + "];", "let t = true; output [t" + Kit.times(",t", 1980) + ",x];",
            "alice a u8; output a + a * (a + a * (a + a * ;", "if true { if true { let t = (((1;", "alice a u64[32];",
            "fn f(a u8[0]) u8 { return 1; }", "$", "alice a u50[20]; output a; output a;", Kit.spending(3001), "output"};
        SecretHouse all = new SecretHouse();
        int turns = 0;
        for (String fault : faults) {
            SecretHouse house = new SecretHouse();
            for (int turn = 0; turn < 11; turn++) {
                Kit.feed(house, fault);
                Kit.due("a FAULT of " + fault, house.compile() > 0, true);
                good("behind " + fault, house);
            }
            Kit.feed(house, fault);
            Kit.due("a FAULT of " + fault, house.compile() > 0, true);
            Kit.feed(all, fault);
            Kit.due("a FAULT of " + fault, all.compile() > 0, true);
            turns++;
        }
        Kit.due("turns", turns < 24, true);
        good("behind all FAULTS", all);
        deepFaultsLeaveNothingBehind();
    }

    private static void deepFaultsLeaveNothingBehind() {
        String[] deep = {Kit.times("if true { ", 40) + "x = 1; " + Kit.times("} ", 40),
            "fn f(a u8) u8 { return a; } let a = " + Kit.times("f(", 21) + "x" + Kit.times(")", 21) + ";",
            "let t = true; output [t" + Kit.times(",t", 1980) + ",x];"};
        for (String fault : deep) {
            SecretHouse house = new SecretHouse();
            for (int turn = 0; turn < 23; turn++) {
                Kit.feed(house, fault);
                Kit.due("a FAULT of " + fault, house.compile(), 3);
            }
            good("behind deep FAULTS", house);
        }
    }

    private static void fnsOfEarlierTexts() {
        SecretHouse house = new SecretHouse();
        for (int turn = 0; turn < 8; turn++) {
            Kit.feed(house, "fn f() u8 { return 4; } alice a u8; output f();");
            Kit.due("compile with a FN", house.compile(), 0);
            Kit.tells("a FN", house, 4);
            Kit.feed(house, "output f();");
            Kit.due("compile without it", house.compile(), 3);
            Kit.due("place", house.place(), 7);
            Kit.feed(house, "fn g() u8 { return f(); } output g();");
            Kit.due("compile without it", house.compile(), 3);
            Kit.due("place", house.place(), 19);
        }
    }

    private static void namesOfEarlierTexts() {
        SecretHouse house = new SecretHouse();
        for (int turn = 0; turn < 12; turn++) {
            String name = "N" + letter(turn);
            StringBuilder text = new StringBuilder("alice a u1;" + Kit.times(" ", turn));
            for (int n = 0; text.length() < 3900; n++) {
                text.append("let ").append(name).append(n).append("=a;");
            }
            Kit.feed(house, text + "output ~" + name + "7;");
            Kit.due("compile with many NAMES", house.compile(), 0);
            Kit.tells("many NAMES", house, 1);
            Kit.feed(house, "let x7 = 1; output " + name + "7;");
            Kit.due("compile without them", house.compile(), 3);
        }
    }

    private static void fullTextsBehindOneAnother() {
        SecretHouse house = new SecretHouse();
        String words = "alice a u1;" + Kit.times("a=a;", 990) + "output ~a;";
        StringBuilder fns = new StringBuilder();
        for (int n = 0; fns.length() < 3900; n++) {
            fns.append("fn ").append(free(n)).append("()u1{return 1;}");
        }
        for (int turn = 0; turn < 11; turn++) {
            Kit.feed(house, words);
            Kit.due("compile of many words", house.compile(), 0);
            Kit.tells("many words", house, 1);
            Kit.feed(house, fns + "output b();output a()^a();");
            Kit.due("compile of many FNs", house.compile(), 0);
            Kit.tells("many FNs", house, 1, 0);
        }
        good("behind full texts", house);
        good("as the 24th", house);
    }

    private static void gatesOfEarlierCircuits() {
        String ands = "2 4\n2 1 1\n1 1\n\n2 1 0 1 2 AND\n2 1 0 2 3 AND\n";
        String none = "1 4\n2 2 1\n1 1\n\n2 1 0 1 3 XOR\n";
        SecretHouse house = new SecretHouse();
        for (int turn = 0; turn < 8; turn++) {
            Kit.feed(house, ands);
            Kit.due("circuit", house.circuit(), 0);
            Kit.due("AND gates", house.count(4), 2);
            Kit.due("gates", house.count(5), 2);
            Kit.tellsWith(ands, house, new long[] {1, 1}, 1);
            Kit.feed(house, ands + "2");
            Kit.due("circuit with a FAULT", house.circuit(), 2);
            Kit.feed(house, none);
            Kit.due("circuit", house.circuit(), 0);
            Kit.due("AND gates", house.count(4), 0);
            Kit.due("gates", house.count(5), 1);
            Kit.due("ELEMENTS", house.count(0) + house.count(1) + house.count(2), 3);
            Kit.tellsWith(none, house, new long[] {2, 1}, 1);
        }
    }
}
